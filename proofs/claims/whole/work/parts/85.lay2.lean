section SPL
variable {S : MS} {p f s m z kk : Nat}
/-- what a pair says, in the reference's state -/
def PDs (S : MS) (p f s m z kk : Nat) : Prop := S.2 7 p = nI f ∧ S.2 8 p = nI s ∧ S.2 9 p = nI m ∧ S.2 10 p = nI z ∧ m < 16 ∧ z ≤ 999 ∧ ((S.2 11 p = 0 ∧ kk = 0) ∨ ∃ q, S.2 11 p = nI q ∧ 1 ≤ q ∧ q ≤ 60 ∧ S.2 5 q = nI kk ∧ kk ≤ 4)
theorem e_split37 (n : Nat) (hp : p ≤ 60) (hD : PDs S p f s m z kk) {R : Nat} (hR : R ≤ 60) (rows : Bool) : f_M_split_B37 n S (nI p) (b32 (!rows)) (nI R) = f_M_split_B113 n S (nI p) (b32 (!rows)) (nI R) (nI (brd m R)) (nI (ahd m z kk R rows)) := by
  obtain ⟨d1, d2, d3, d4, d5, d6, d7⟩ := hD
  have ip := ixn (show p < 2 ^ 31 by omega)
  have bp : inB (nI p) 61 = true := inn (by omega) (by decide)
  obtain ⟨b1, b2, b3, b4, b5⟩ := bits m d5
  have hW := e_Mwant n S hp d5 d6 hR d3 d4 d7 rows
  have bl := brd_le m R
  have wl : wnt m z kk R rows < 2 ^ 31 := by
    unfold wnt
    have : R * z ≤ 60 * 999 := Nat.mul_le_mul hR d6
    repeat' split
    all_goals omega
  have h88 : ∀ q, q ≤ R - brd m R → f_M_split_B88 n S (nI p) (b32 (!rows)) (nI R) (nI (brd m R)) (nI q) = f_M_split_B113 n S (nI p) (b32 (!rows)) (nI R) (nI (brd m R)) (nI (if m % 2 = 0 then q else R - brd m R - q)) := by
    intro q hq
    unfold f_M_split_B88
    rw [bp, cond_true, ip, d3]
    by_cases c : m % 2 = 0
    · rw [if_pos (b1.mpr c), if_pos c]
    · rw [if_neg (fun q => c (b1.mp q)), if_neg c, pk_sub bl, pk_sub hq]
  have h59 : f_M_split_B59 n S (nI p) (b32 (!rows)) (nI R) (nI (brd m R)) = f_M_split_B113 n S (nI p) (b32 (!rows)) (nI R) (nI (brd m R)) (nI (ahd m z kk R rows)) := by
    unfold f_M_split_B59
    rw [hW, Option.bind_some, pk_sub bl]
    simp only [nI_lei wl (show R - brd m R < 2 ^ 31 by omega)]
    unfold ahd
    by_cases c : wnt m z kk R rows ≤ R - brd m R
    · rw [if_pos c, h88 _ c, Nat.min_eq_left c]
    · rw [if_neg c, h88 _ (Nat.le_refl _), Nat.min_eq_right (by omega)]
  unfold f_M_split_B37
  rw [bp, cond_true, ip, d3]
  by_cases c : m / 8 % 2 = 0
  · rw [if_pos (b4.mpr c)]
    by_cases c2 : R = 0
    · have e : brd m R = 0 := by unfold brd; rw [if_neg (by omega)]
      rw [if_pos ((nI_le0 (by omega)).mpr c2)]
      unfold f_M_split_B58
      rw [e] at h59 ⊢
      exact h59
    · have e : brd m R = 1 := by unfold brd; rw [if_pos ⟨by omega, c⟩]
      rw [if_neg (fun q => c2 ((nI_le0 (by omega)).mp q))]
      rw [e] at h59 ⊢
      exact h59
  · have e : brd m R = 0 := by unfold brd; rw [if_neg (fun q => c q.2)]
    rw [if_neg (fun q => c (b4.mp q))]
    unfold f_M_split_B58
    rw [e] at h59 ⊢
    exact h59
theorem e_split (n : Nat) (hp : p ≤ 60) (hf : f ≤ 60) (hs : s ≤ 60) (nf : ¬ p = f) (hD : PDs S p f s m z kk) {r : Rc} (hr : rb r) (r1 : S.2 12 p = nI r.1) (r2 : S.2 13 p = nI r.2.1) (r3 : S.2 14 p = nI r.2.2.1) (r4 : S.2 15 p = nI r.2.2.2) : f_M_split n S (nI p) = some (rmS (rmS S f (nrm (sp1 m z kk r))) s (nrm (sp2 m z kk r))) := by
  obtain ⟨d1, d2, d3, d4, d5, d6, d7⟩ := id hD
  have ip := ixn (show p < 2 ^ 31 by omega)
  have bp : inB (nI p) 61 = true := inn (by omega) (by decide)
  obtain ⟨b1, b2, b3, b4, b5⟩ := bits m d5
  obtain ⟨u1, u2⟩ := hr
  unfold f_M_split
  rw [bp, cond_true, ip, d3]
  -- what the first room leaves alone
  have fr : ∀ (k : Nat) (R : Rc), (rmS S f R).2 k p = S.2 k p := by
    intro k R
    unfold rmS
    rw [MS.a_2, if_neg (fun q => nf q.2), MS.a_2, if_neg (fun q => nf q.2), MS.a_2, if_neg (fun q => nf q.2), MS.a_2, if_neg (fun q => nf q.2)]
  have fr8 : ∀ (R : Rc), (rmS S f R).2 8 p = nI s := fun R => by rw [fr, d2]
  by_cases c : m / 2 % 2 = 0
  · rw [if_neg (fun q => b5.mp q c)]
    have al := ahd_le m z kk r.2.2.1 false
    unfold f_M_split_B17
    rw [if_neg (by decide), bp, cond_true, ip, r3]
    have q37 := e_split37 n hp hD (R := r.2.2.1) (by omega) false
    rw [show b32 (!false) = 1 from rfl] at q37
    rw [q37]
    unfold f_M_split_B113 sp1 sp2
    rw [if_neg (by decide)]
    simp only [bp, cond_true, ip, d1, r1, r2, r4, if_pos c]
    rw [e_room n S hf (by omega) (by omega), Option.bind_some]
    simp only [fr8, fr, r1, r2, r4]
    rw [nI_add, nI_add, pk_sub (by omega), pk_sub (by omega), e_room n _ hs (by omega) (by omega), Option.bind_some, show r.1 + ahd m z kk r.2.2.1 false + brd m r.2.2.1 = r.1 + (ahd m z kk r.2.2.1 false + brd m r.2.2.1) by omega, show r.2.2.1 - brd m r.2.2.1 - ahd m z kk r.2.2.1 false = r.2.2.1 - (ahd m z kk r.2.2.1 false + brd m r.2.2.1) by omega]
  · rw [if_pos (b5.mpr c)]
    have al := ahd_le m z kk r.2.2.2 true
    unfold f_M_split_B17
    rw [if_pos rfl, bp, cond_true, ip, r4]
    have q37 := e_split37 n hp hD (R := r.2.2.2) (by omega) true
    rw [show b32 (!true) = 0 from rfl] at q37
    rw [q37]
    unfold f_M_split_B113 sp1 sp2
    rw [if_pos rfl]
    simp only [bp, cond_true, ip, d1, r1, r2, r3, if_neg c]
    rw [e_room n S hf (by omega) (by omega), Option.bind_some]
    simp only [fr8, fr, r1, r2, r3]
    rw [nI_add, nI_add, pk_sub (by omega), pk_sub (by omega), e_room n _ hs (by omega) (by omega), Option.bind_some, show r.2.1 + ahd m z kk r.2.2.2 true + brd m r.2.2.2 = r.2.1 + (ahd m z kk r.2.2.2 true + brd m r.2.2.2) by omega, show r.2.2.2 - brd m r.2.2.2 - ahd m z kk r.2.2.2 true = r.2.2.2 - (ahd m z kk r.2.2.2 true + brd m r.2.2.2) by omega]
end SPL
/-! a grid fits itself in -/
def outc (w v gw gh t : Nat) : Prop := w ≤ t % 60 ∨ v ≤ t / 60 ∨ gw ≤ t % 60 ∨ gh ≤ t / 60
section FIT
variable {q w v gw gh : Nat}
theorem fit_row (hq : q ≤ 60) (hw : w ≤ 60) (hv : v ≤ 24) (hgw : gw ≤ 60) (hgh : gh ≤ 24) (rec2 : MS → Int32 → Int32 → Option MS) {cy : Nat} (hcy : cy < 24) : ∀ (d n : Nat) (S : MS) (cx : Nat), cx + d = 60 → d < n → S.2 14 q = nI w → S.2 15 q = nI v → S.2 32 q = nI gw → S.2 33 q = nI gh → ∃ S1, f_M_fit_B10 rec2 n S (nI q) (nI cy) (nI cx) = rec2 S1 (nI q) (nI (cy + 1)) ∧ S1.1 = S.1 ∧ ∀ k i, S1.2 k i = if (k = 29 ∨ k = 30 ∨ k = 31) ∧ 1440 * q + (60 * cy + cx) ≤ i ∧ i < 1440 * q + (60 * cy + 60) ∧ (w ≤ (i - 1440 * q) % 60 ∨ v ≤ (i - 1440 * q) / 60 ∨ gw ≤ (i - 1440 * q) % 60 ∨ gh ≤ (i - 1440 * q) / 60) then (if k = 29 then 32 else 0) else S.2 k i := by
  have iq := ixn (show q < 2 ^ 31 by omega)
  have bq : inB (nI q) 61 = true := inn (by omega) (by decide)
  intro d
  induction d with
  | zero =>
    intro n S cx h1 h2 s14 s15 s32 s33
    cases n with
    | zero => omega
    | succ n =>
      have e : cx = 60 := by omega
      subst e
      refine ⟨S, ?_, rfl, fun k i => by rw [if_neg (by omega)]⟩
      rw [f_M_fit_B10, if_pos (show (60 : Int32) ≤ nI 60 by decide), nI_1]
  | succ d ih =>
    intro n S cx h1 h2 s14 s15 s32 s33
    cases n with
    | zero => omega
    | succ n =>
      have ng : ¬ (60 : Int32) ≤ nI cx := nI_ge (a := cx) (b := 60) (by omega) (by decide)
      have e3 : (1440 : Int32) * nI q + (60 : Int32) * nI cy + nI cx = nI (1440 * q + (60 * cy + cx)) := by rw [show (1440 : Int32) = nI 1440 from rfl, show (60 : Int32) = nI 60 from rfl, pk_mul, pk_mul, nI_add, nI_add, Nat.add_assoc]
      have bl := e_blank (n := n) (S := S) (q := 1440 * q + (60 * cy + cx)) (by omega)
      have hB : ∃ S1, f_M_fit_B10 rec2 n (bl3 S (1440 * q + (60 * cy + cx)) (1440 * q + (60 * cy + cx) + 1)) (nI q) (nI cy) (nI (cx + 1)) = rec2 S1 (nI q) (nI (cy + 1)) ∧ S1.1 = S.1 ∧ ∀ k i, S1.2 k i = if (k = 29 ∨ k = 30 ∨ k = 31) ∧ 1440 * q + (60 * cy + (cx + 1)) ≤ i ∧ i < 1440 * q + (60 * cy + 60) ∧ (w ≤ (i - 1440 * q) % 60 ∨ v ≤ (i - 1440 * q) / 60 ∨ gw ≤ (i - 1440 * q) % 60 ∨ gh ≤ (i - 1440 * q) / 60) then (if k = 29 then 32 else 0) else (if (k = 29 ∨ k = 30 ∨ k = 31) ∧ 1440 * q + (60 * cy + cx) ≤ i ∧ i < 1440 * q + (60 * cy + cx) + 1 then (if k = 29 then 32 else 0) else S.2 k i) := by
        have g : ∀ k, ¬ (k = 29 ∨ k = 30 ∨ k = 31) → (bl3 S (1440 * q + (60 * cy + cx)) (1440 * q + (60 * cy + cx) + 1)).2 k q = S.2 k q := fun k hk => by rw [bl3_2, if_neg (fun h => hk h.1)]
        obtain ⟨S1, a1, a2, a3⟩ := ih n (bl3 S (1440 * q + (60 * cy + cx)) (1440 * q + (60 * cy + cx) + 1)) (cx + 1) (by omega) (by omega) (by rw [g 14 (by decide), s14]) (by rw [g 15 (by decide), s15]) (by rw [g 32 (by decide), s32]) (by rw [g 33 (by decide), s33])
        exact ⟨S1, a1, a2, fun k i => by rw [a3, bl3_2]⟩
      have hB' : (w ≤ cx ∨ v ≤ cy ∨ gw ≤ cx ∨ gh ≤ cy) → ∃ S1, f_M_fit_B10 rec2 n (bl3 S (1440 * q + (60 * cy + cx)) (1440 * q + (60 * cy + cx) + 1)) (nI q) (nI cy) (nI (cx + 1)) = rec2 S1 (nI q) (nI (cy + 1)) ∧ S1.1 = S.1 ∧ ∀ k i, S1.2 k i = if (k = 29 ∨ k = 30 ∨ k = 31) ∧ 1440 * q + (60 * cy + cx) ≤ i ∧ i < 1440 * q + (60 * cy + 60) ∧ (w ≤ (i - 1440 * q) % 60 ∨ v ≤ (i - 1440 * q) / 60 ∨ gw ≤ (i - 1440 * q) % 60 ∨ gh ≤ (i - 1440 * q) / 60) then (if k = 29 then 32 else 0) else S.2 k i := by
        intro ho
        obtain ⟨S1, a1, a2, a3⟩ := hB
        refine ⟨S1, a1, a2, fun k i => ?_⟩
        rw [a3]
        generalize (if k = 29 then (32 : Int32) else 0) = B
        by_cases c1 : (k = 29 ∨ k = 30 ∨ k = 31) ∧ 1440 * q + (60 * cy + (cx + 1)) ≤ i ∧ i < 1440 * q + (60 * cy + 60) ∧ (w ≤ (i - 1440 * q) % 60 ∨ v ≤ (i - 1440 * q) / 60 ∨ gw ≤ (i - 1440 * q) % 60 ∨ gh ≤ (i - 1440 * q) / 60)
        · rw [if_pos c1, if_pos ⟨c1.1, by omega, by omega, c1.2.2.2⟩]
        · rw [if_neg c1]
          by_cases c2 : (k = 29 ∨ k = 30 ∨ k = 31) ∧ i = 1440 * q + (60 * cy + cx)
          · have e1 : (i - 1440 * q) % 60 = cx := by omega
            have e2 : (i - 1440 * q) / 60 = cy := by omega
            rw [if_pos ⟨c2.1, by omega, by omega⟩, if_pos ⟨c2.1, by omega, by omega, by rw [e1, e2]; exact ho⟩]
          · rw [if_neg (by omega), if_neg (fun h => c1 ⟨h.1, by omega, h.2.2.1, h.2.2.2⟩)]
      rw [f_M_fit_B10, if_neg ng]
      simp only [bq, cond_true, iq, s14, s15, s32, s33, e3, bl, Option.bind_some, nI_1, nI_lei (show w < 2 ^ 31 by omega) (show cx < 2 ^ 31 by omega), nI_lei (show v < 2 ^ 31 by omega) (show cy < 2 ^ 31 by omega), nI_lei (show gw < 2 ^ 31 by omega) (show cx < 2 ^ 31 by omega), nI_lti (show cy < 2 ^ 31 by omega) (show gh < 2 ^ 31 by omega)]
      by_cases c1 : w ≤ cx
      · rw [if_pos c1]; exact hB' (Or.inl c1)
      · rw [if_neg c1]
        by_cases c2 : v ≤ cy
        · rw [if_pos c2]; exact hB' (Or.inr (Or.inl c2))
        · rw [if_neg c2]
          by_cases c3 : gw ≤ cx
          · rw [if_pos c3]; exact hB' (Or.inr (Or.inr (Or.inl c3)))
          · rw [if_neg c3]
            by_cases c4 : cy < gh
            · rw [if_pos c4]
              obtain ⟨S1, a1, a2, a3⟩ := ih n S (cx + 1) (by omega) (by omega) s14 s15 s32 s33
              refine ⟨S1, a1, a2, fun k i => ?_⟩
              rw [a3]
              generalize (if k = 29 then (32 : Int32) else 0) = B
              by_cases d1 : (k = 29 ∨ k = 30 ∨ k = 31) ∧ 1440 * q + (60 * cy + (cx + 1)) ≤ i ∧ i < 1440 * q + (60 * cy + 60) ∧ (w ≤ (i - 1440 * q) % 60 ∨ v ≤ (i - 1440 * q) / 60 ∨ gw ≤ (i - 1440 * q) % 60 ∨ gh ≤ (i - 1440 * q) / 60)
              · rw [if_pos d1, if_pos ⟨d1.1, by omega, by omega, d1.2.2.2⟩]
              · rw [if_neg d1, if_neg (fun h => by
                  rcases (by omega : i = 1440 * q + (60 * cy + cx) ∨ 1440 * q + (60 * cy + (cx + 1)) ≤ i) with e | e
                  · have e1 : (i - 1440 * q) % 60 = cx := by omega
                    have e2 : (i - 1440 * q) / 60 = cy := by omega
                    have := h.2.2.2
                    rw [e1, e2] at this
                    omega
                  · exact d1 ⟨h.1, e, h.2.2.1, h.2.2.2⟩)]
            · rw [if_neg c4]; exact hB' (Or.inr (Or.inr (Or.inr (by omega))))
theorem fit_all (hq : q ≤ 60) (hw : w ≤ 60) (hv : v ≤ 24) (hgw : gw ≤ 60) (hgh : gh ≤ 24) : ∀ (d n : Nat) (S : MS) (cy : Nat), cy + d = 24 → d + 70 < n → S.2 14 q = nI w → S.2 15 q = nI v → S.2 32 q = nI gw → S.2 33 q = nI gh → ∃ S1, f_M_fit_B2 n S (nI q) (nI cy) = some S1 ∧ S1.1 = S.1 ∧ ∀ k i, S1.2 k i = if k = 33 ∧ i = q then nI v else if k = 32 ∧ i = q then nI w else if (k = 29 ∨ k = 30 ∨ k = 31) ∧ 1440 * q + 60 * cy ≤ i ∧ i < 1440 * q + 1440 ∧ (w ≤ (i - 1440 * q) % 60 ∨ v ≤ (i - 1440 * q) / 60 ∨ gw ≤ (i - 1440 * q) % 60 ∨ gh ≤ (i - 1440 * q) / 60) then (if k = 29 then 32 else 0) else S.2 k i := by
  have iq := ixn (show q < 2 ^ 31 by omega)
  have bq : inB (nI q) 61 = true := inn (by omega) (by decide)
  intro d
  induction d with
  | zero =>
    intro n S cy h1 h2 s14 s15 s32 s33
    cases n with
    | zero => omega
    | succ n =>
      have e : cy = 24 := by omega
      subst e
      refine ⟨(S.a 32 q (nI w)).a 33 q (nI v), ?_, rfl, fun k i => ?_⟩
      · rw [f_M_fit_B2, if_pos (show (24 : Int32) ≤ nI 24 by decide)]
        simp only [bq, cond_true, iq, s14, MS.a_2, show ¬ 15 = 32 from by decide, false_and, if_false, reduceIte, s15]
      · rw [MS.a_2, MS.a_2]
        by_cases c1 : k = 33 ∧ i = q
        · rw [if_pos c1, if_pos c1]
        · rw [if_neg c1, if_neg c1]
          by_cases c2 : k = 32 ∧ i = q
          · rw [if_pos c2, if_pos c2]
          · rw [if_neg c2, if_neg c2, if_neg (by omega)]
  | succ d ih =>
    intro n S cy h1 h2 s14 s15 s32 s33
    cases n with
    | zero => omega
    | succ n =>
      obtain ⟨S1, a1, a2, a3⟩ := fit_row hq hw hv hgw hgh (f_M_fit_B2 n) (show cy < 24 by omega) 60 n S 0 (by omega) (by omega) s14 s15 s32 s33
      have g : ∀ k, ¬ (k = 29 ∨ k = 30 ∨ k = 31) → S1.2 k q = S.2 k q := fun k hk => by rw [a3, if_neg (fun h => hk h.1)]
      obtain ⟨S2, b1, b2, b3⟩ := ih n S1 (cy + 1) (by omega) (by omega) (by rw [g 14 (by decide), s14]) (by rw [g 15 (by decide), s15]) (by rw [g 32 (by decide), s32]) (by rw [g 33 (by decide), s33])
      refine ⟨S2, ?_, by rw [b2, a2], fun k i => ?_⟩
      · rw [f_M_fit_B2, if_neg (show ¬ (24 : Int32) ≤ nI cy from nI_ge (a := cy) (b := 24) (by omega) (by decide)), ← b1]
        exact a1
      · rw [b3, a3]
        generalize (if k = 29 then (32 : Int32) else 0) = B
        by_cases c1 : k = 33 ∧ i = q
        · rw [if_pos c1, if_pos c1]
        · rw [if_neg c1, if_neg c1]
          by_cases c2 : k = 32 ∧ i = q
          · rw [if_pos c2, if_pos c2]
          · rw [if_neg c2, if_neg c2]
            by_cases c3 : (k = 29 ∨ k = 30 ∨ k = 31) ∧ 1440 * q + 60 * (cy + 1) ≤ i ∧ i < 1440 * q + 1440 ∧ (w ≤ (i - 1440 * q) % 60 ∨ v ≤ (i - 1440 * q) / 60 ∨ gw ≤ (i - 1440 * q) % 60 ∨ gh ≤ (i - 1440 * q) / 60)
            · rw [if_pos c3, if_pos ⟨c3.1, by omega, c3.2.2.1, c3.2.2.2⟩]
            · rw [if_neg c3]
              by_cases c4 : (k = 29 ∨ k = 30 ∨ k = 31) ∧ 1440 * q + (60 * cy + 0) ≤ i ∧ i < 1440 * q + (60 * cy + 60) ∧ (w ≤ (i - 1440 * q) % 60 ∨ v ≤ (i - 1440 * q) / 60 ∨ gw ≤ (i - 1440 * q) % 60 ∨ gh ≤ (i - 1440 * q) / 60)
              · rw [if_pos c4, if_pos ⟨c4.1, by omega, by omega, c4.2.2.2⟩]
              · rw [if_neg c4, if_neg (fun h => by
                  rcases Nat.lt_or_ge i (1440 * q + 60 * (cy + 1)) with e | e
                  · exact c4 ⟨h.1, by omega, by omega, h.2.2.2⟩
                  · exact c3 ⟨h.1, e, h.2.2.1, h.2.2.2⟩)]
/-- how the grid q stands in S' after it was fitted, S before -/
def FTd (S S' : MS) (q w v : Nat) : Prop := S'.2 32 q = nI w ∧ S'.2 33 q = nI v ∧ ∀ gw gh, S.2 32 q = nI gw → S.2 33 q = nI gh → gw ≤ 60 → gh ≤ 24 → ∀ t, t < 1440 → ∀ k, (k = 29 ∨ k = 30 ∨ k = 31) → S'.2 k (1440 * q + t) = if w ≤ t % 60 ∨ v ≤ t / 60 ∨ gw ≤ t % 60 ∨ gh ≤ t / 60 then (if k = 29 then 32 else 0) else S.2 k (1440 * q + t)
theorem e_fit {n : Nat} (hn : 200 ≤ n) {S : MS} (hq : q ≤ 60) (hw : w ≤ 60) (hv : v ≤ 24) (hgw : gw ≤ 60) (hgh : gh ≤ 24) (s14 : S.2 14 q = nI w) (s15 : S.2 15 q = nI v) (s32 : S.2 32 q = nI gw) (s33 : S.2 33 q = nI gh) : ∃ S1, f_M_fit n S (nI q) = some S1 ∧ S1.1 = S.1 ∧ FTd S S1 q w v ∧ ∀ k i, ¬ ((k = 32 ∨ k = 33) ∧ i = q) → ¬ ((k = 29 ∨ k = 30 ∨ k = 31) ∧ 1440 * q ≤ i ∧ i < 1440 * q + 1440) → S1.2 k i = S.2 k i := by
  obtain ⟨S1, a1, a2, a3⟩ := fit_all hq hw hv hgw hgh 24 n S 0 (by omega) (by omega) s14 s15 s32 s33
  refine ⟨S1, a1, a2, ⟨?_, ?_, fun gw' gh' e1 e2 l1 l2 t ht k hk => ?_⟩, fun k i c1 c2 => ?_⟩
  · rw [a3, if_neg (by omega), if_pos ⟨rfl, rfl⟩]
  · rw [a3, if_pos ⟨rfl, rfl⟩]
  · have g1 : gw' = gw := (nI_eq (by omega) (by omega)).mp (by rw [← e1, s32])
    have g2 : gh' = gh := (nI_eq (by omega) (by omega)).mp (by rw [← e2, s33])
    subst g1 g2
    rw [a3, if_neg (by omega), if_neg (by omega), show 1440 * q + t - 1440 * q = t by omega]
    by_cases c : w ≤ t % 60 ∨ v ≤ t / 60 ∨ gw' ≤ t % 60 ∨ gh' ≤ t / 60
    · rw [if_pos ⟨hk, by omega, by omega, c⟩, if_pos c]
    · rw [if_neg (fun h => c h.2.2.2), if_neg c]
  · rw [a3, if_neg (by omega), if_neg (by omega), if_neg (by omega)]
end FIT
