/-! ===== the reference's arranging, below one pane ===== -/
def rcS (S : MS) (q : Nat) (r : Rc) : Prop := S.2 12 q = nI r.1 ∧ S.2 13 q = nI r.2.1 ∧ S.2 14 q = nI r.2.2.1 ∧ S.2 15 q = nI r.2.2.2
/-- what arranging the panes l leaves alone -/
def ARF (S S' : MS) (l : List Nat) (k0 : Nat) : Prop := S'.1 = S.1 ∧ ∀ k i, (k = 36 → i < k0) → ¬ ((k = 12 ∨ k = 13 ∨ k = 14 ∨ k = 15 ∨ k = 32 ∨ k = 33) ∧ i ∈ l) → ¬ ((k = 29 ∨ k = 30 ∨ k = 31) ∧ ∃ q, q ∈ l ∧ 1440 * q ≤ i ∧ i < 1440 * q + 1440) → S'.2 k i = S.2 k i
theorem rmS_2 {S : MS} {q : Nat} {r : Rc} {k i : Nat} (h : ¬ (12 ≤ k ∧ k ≤ 15 ∧ i = q)) : (rmS S q r).2 k i = S.2 k i := by
  unfold rmS
  rw [MS.a_2, if_neg (by omega), MS.a_2, if_neg (by omega), MS.a_2, if_neg (by omega), MS.a_2, if_neg (by omega)]
theorem rmS_rc {S : MS} {q : Nat} {r : Rc} : rcS (rmS S q r) q r := by
  unfold rcS rmS
  simp only [MS.a_2]
  refine ⟨?_, ?_, ?_, ?_⟩ <;> simp
theorem rcS.eq {S S' : MS} {q : Nat} {r : Rc} (H : rcS S q r) (h : ∀ k, 12 ≤ k → k ≤ 15 → S'.2 k q = S.2 k q) : rcS S' q r := by
  unfold rcS at H ⊢
  rw [h 12 (by omega) (by omega), h 13 (by omega) (by omega), h 14 (by omega) (by omega), h 15 (by omega) (by omega)]
  exact H
theorem FTd.eq {S S' T T' : MS} {q w v : Nat} (H : FTd S S' q w v) (h1 : ∀ k, k = 32 ∨ k = 33 → T.2 k q = S.2 k q ∧ T'.2 k q = S'.2 k q) (h2 : ∀ k i, (k = 29 ∨ k = 30 ∨ k = 31) → 1440 * q ≤ i → i < 1440 * q + 1440 → T.2 k i = S.2 k i ∧ T'.2 k i = S'.2 k i) : FTd T T' q w v := by
  obtain ⟨a1, a2, a3⟩ := H
  refine ⟨by rw [(h1 32 (by omega)).2]; exact a1, by rw [(h1 33 (by omega)).2]; exact a2, fun gw gh e1 e2 l1 l2 t ht k hk => ?_⟩
  rw [(h1 32 (by omega)).1] at e1
  rw [(h1 33 (by omega)).1] at e2
  rw [(h2 k _ hk (by omega) (by omega)).2, (h2 k _ hk (by omega) (by omega)).1]
  exact a3 gw gh e1 e2 l1 l2 t ht k hk
theorem ARF.fit {S S' : MS} {l : List Nat} {k0 q : Nat} (H : ARF S S' l k0) (hq : ¬ q ∈ l) : (∀ k, k = 32 ∨ k = 33 → S'.2 k q = S.2 k q) ∧ ∀ k i, (k = 29 ∨ k = 30 ∨ k = 31) → 1440 * q ≤ i → i < 1440 * q + 1440 → S'.2 k i = S.2 k i := by
  refine ⟨fun k hk => H.2 k q (by omega) (fun h => hq h.2) (by omega), fun k i hk h1 h2 => H.2 k i (by omega) (by omega) (fun h => ?_)⟩
  obtain ⟨-, q', h3, h4, h5⟩ := h
  rw [show q = q' by omega] at hq
  exact hq h3
theorem ARF.rc {S S' : MS} {l : List Nat} {k0 q : Nat} (H : ARF S S' l k0) (hq : ¬ q ∈ l) : ∀ k, 12 ≤ k → k ≤ 15 → S'.2 k q = S.2 k q :=
  fun k h1 h2 => H.2 k q (by omega) (fun h => hq h.2) (by omega)
theorem arr_sub {S0 : MS} : ∀ (d : Nat) {up p : Nat} {l : List Nat} {r : Rc} {G : Nat → Rc} {k0 N : Nat} {S : MS}, TPS S0 d up p l → l.Nodup → LayR S0 d p r G → rb r → k0 + d ≤ 60 → (∀ k, 4 ≤ k → k ≤ 11 → S.2 k = S0.2 k) → (∀ q, q ∈ l → S0.2 5 q = 4 → PDs S0 q (fN S0 q) (sN S0 q) (mN S0 q) (zN S0 q) (kN S0 q)) → (∀ q, q ∈ l → S0.2 5 q = 2 → ∃ gw gh, S.2 32 q = nI gw ∧ S.2 33 q = nI gh ∧ gw ≤ 60 ∧ gh ≤ 24) → rcS S p r → S.2 36 k0 = nI p → l.length + 300 ≤ N → ∃ S' N', N ≤ N' + l.length ∧ f_M_arrangeAll_B38 N S (nI (k0 + 1)) = f_M_arrangeAll_B38 N' S' (nI k0) ∧ (∀ q, q ∈ l → rcS S' q (G q)) ∧ (∀ q, q ∈ l → S0.2 5 q = 2 → FTd S S' q (G q).2.2.1 (G q).2.2.2) ∧ ARF S S' l k0 := by
  intro d
  induction d with
  | zero => intro up p l r G k0 N S hT; cases hT
  | succ d ih =>
    intro up p l r G k0 N S hT hN hL hr hk hE hD hg hR hp hn
    obtain ⟨h1, h2, h3, h4, h5⟩ := hT
    have ip := ixn (show p < 2 ^ 31 by omega)
    have bp : inB (nI p) 61 = true := inn (by omega) (by decide)
    have bk : inB (nI k0) 61 = true := inn (by omega) (by decide)
    have ik := ixn (show k0 < 2 ^ 31 by omega)
    have em := nI_m1 k0
    have np : ¬ nI (k0 + 1) ≤ 0 := nI_ge (a := 0) (b := k0 + 1) (by omega) (by omega)
    have e5 : S.2 5 = S0.2 5 := hE 5 (by omega) (by omega)
    cases N with
    | zero => omega
    | succ N =>
    rcases h5 with ⟨h5, h6⟩ | ⟨h5, f, s, ll, lr, h6, h7, h8, h9, h10⟩
    · subst h6
      have gp : G p = r := hL.1
      have k5 : ¬ S.2 5 p = 4 := by rw [e5]; exact h5
      by_cases c2 : S0.2 5 p = 2
      · obtain ⟨gw, gh, s32, s33, l1, l2⟩ := hg p (List.mem_singleton.mpr rfl) c2
        obtain ⟨S1, a1, a2, a3, a4⟩ := e_fit (n := N) (by omega) h2 (w := r.2.2.1) (v := r.2.2.2) (by have := hr.1; omega) (by have := hr.2; omega) l1 l2 hR.2.2.1 hR.2.2.2 s32 s33
        refine ⟨S1, N, by simp, ?_, fun q hq => ?_, fun q hq _ => ?_, a2, fun k i c1 c2' c3 => ?_⟩
        · rw [f_M_arrangeAll_B38, if_neg np, em]
          simp only [bk, cond_true, ik, hp, bp, ip, k5, if_false, reduceIte, e5, c2, show ¬ (2 : Int32) = 4 from by decide, if_true, a1, Option.bind_some]
        · rw [List.mem_singleton.mp hq, gp]
          exact hR.eq (fun k c1 c2' => a4 k p (by omega) (by omega))
        · rw [List.mem_singleton.mp hq, gp]; exact a3
        · refine a4 k i (fun h => c2' ⟨by omega, List.mem_singleton.mpr h.2⟩) (fun h => c3 ⟨h.1, p, List.mem_singleton.mpr rfl, h.2⟩)
      · refine ⟨S, N, by simp, ?_, fun q hq => ?_, fun q hq k => ?_, rfl, fun _ _ _ _ _ => rfl⟩
        · have c2' : ¬ S.2 5 p = 2 := by rw [e5]; exact c2
          rw [f_M_arrangeAll_B38, if_neg np, em]
          simp only [bk, cond_true, ik, hp, bp, ip, k5, c2', if_false, reduceIte]
        · rw [List.mem_singleton.mp hq, gp]; exact hR
        · rw [List.mem_singleton.mp hq] at k; exact absurd k c2
    · subst h8
      obtain ⟨m1, m2⟩ := List.nodup_cons.mp hN
      obtain ⟨m3, m4, m5⟩ := List.nodup_append.mp m2
      have hf := h9.here
      have hs := h10.here
      have ef : fN S0 p = f := by unfold fN; rw [h6, ixn (by have := hf.2.1; omega)]
      have es : sN S0 p = s := by unfold sN; rw [h7, ixn (by have := hs.2.1; omega)]
      obtain ⟨k1, k2⟩ := hL.2 h5
      rw [ef] at k1
      rw [es] at k2
      have pl : ∀ q, q ∈ ll → ¬ q = p := fun q hq e => m1 (List.mem_append_left _ (e ▸ hq))
      have pr : ∀ q, q ∈ lr → ¬ q = p := fun q hq e => m1 (List.mem_append_right _ (e ▸ hq))
      have dj : ∀ q, q ∈ ll → ¬ q ∈ lr := fun q h h' => m5 q h q h' rfl
      have pd0 := hD p List.mem_cons_self h5
      rw [ef, es] at pd0
      have pd : PDs S p f s (mN S0 p) (zN S0 p) (kN S0 p) := by
        unfold PDs at pd0 ⊢
        rw [hE 5 (by omega) (by omega), hE 7 (by omega) (by omega), hE 8 (by omega) (by omega), hE 9 (by omega) (by omega), hE 10 (by omega) (by omega), hE 11 (by omega) (by omega)]
        exact pd0
      have spl := e_split N h2 hf.2.1 hs.2.1 (fun e => pl f hf.2.2.2.2 e.symm) pd hr hR.1 hR.2.1 hR.2.2.1 hR.2.2.2
      have k5 : S.2 5 p = 4 := by rw [e5]; exact h5
      have bk1 : inB (nI (k0 + 1)) 61 = true := inn (by omega) (by decide)
      have ik1 := ixn (show k0 + 1 < 2 ^ 31 by omega)
      have s7 : ∀ (R R' : Rc), (rmS (rmS S f R) s R').2 7 p = nI f := fun R R' => by rw [rmS_2 (by omega), rmS_2 (by omega), pd.1]
      have s8 : ∀ (R R' : Rc) (x : Int32), ((rmS (rmS S f R) s R').a 36 k0 x).2 8 p = nI s := fun R R' x => by rw [MS.a_2, if_neg (by omega), rmS_2 (by omega), rmS_2 (by omega), pd.2.1]
      -- after the split
      let S2 := ((rmS (rmS S f (ch1 S0 p r)) s (ch2 S0 p r)).a 36 k0 (nI f)).a 36 (k0 + 1) (nI s)
      have g2 : ∀ k i, ¬ k = 36 → ¬ (12 ≤ k ∧ k ≤ 15 ∧ (i = f ∨ i = s)) → S2.2 k i = S.2 k i := by
        intro k i c1 c2
        show (((rmS (rmS S f (ch1 S0 p r)) s (ch2 S0 p r)).a 36 k0 (nI f)).a 36 (k0 + 1) (nI s)).2 k i = _
        rw [MS.a_2, if_neg (by omega), MS.a_2, if_neg (by omega), rmS_2 (by omega), rmS_2 (by omega)]
      have st : f_M_arrangeAll_B38 (N + 1) S (nI (k0 + 1)) = f_M_arrangeAll_B38 N S2 (nI (k0 + 1 + 1)) := by
        rw [f_M_arrangeAll_B38, if_neg np, em]
        simp only [bk, cond_true, ik, hp, bp, ip, k5, if_true, reduceIte, spl, Option.bind_some, s7, s8, nI_1, bk1, ik1]
        rw [show (2 : Int32) = nI 2 from rfl, nI_add]
        rfl
      have rs2 : rcS S2 s (ch2 S0 p r) := by
        refine (rmS_rc (S := rmS S f (ch1 S0 p r)) (q := s) (r := ch2 S0 p r)).eq (fun k c1 c2 => ?_)
        show (((rmS (rmS S f (ch1 S0 p r)) s (ch2 S0 p r)).a 36 k0 (nI f)).a 36 (k0 + 1) (nI s)).2 k s = _
        rw [MS.a_2, if_neg (by omega), MS.a_2, if_neg (by omega)]
      have nfs : ¬ f = s := fun e => dj f hf.2.2.2.2 (e ▸ hs.2.2.2.2)
      have rf2 : rcS S2 f (ch1 S0 p r) := by
        refine (rmS_rc (S := S) (q := f) (r := ch1 S0 p r)).eq (fun k c1 c2 => ?_)
        show (((rmS (rmS S f (ch1 S0 p r)) s (ch2 S0 p r)).a 36 k0 (nI f)).a 36 (k0 + 1) (nI s)).2 k f = _
        rw [MS.a_2, if_neg (by omega), MS.a_2, if_neg (by omega), rmS_2 (by omega)]
      have rp2 : rcS S2 p r := hR.eq (fun k c1 c2 => g2 k p (by omega) (fun h => by
        rcases h.2.2 with e | e
        · exact pl f hf.2.2.2.2 e.symm
        · exact pr s hs.2.2.2.2 e.symm))
      have len : (p :: (ll ++ lr)).length = ll.length + lr.length + 1 := by simp
      rw [len] at hn
      obtain ⟨S3, N3, a1, a2, a3, a4, a5⟩ := ih (k0 := k0 + 1) (N := N) (S := S2) h10 m4 k2 (nrm_rb (sp2_rb hr)) (by omega) (fun k c1 c2 => by rw [← hE k c1 c2]; funext i; exact g2 k i (by omega) (by omega)) (fun q hq k => hD q (List.mem_cons_of_mem _ (List.mem_append_right _ hq)) k) (fun q hq k => by
        obtain ⟨gw, gh, b1, b2, b3⟩ := hg q (List.mem_cons_of_mem _ (List.mem_append_right _ hq)) k
        exact ⟨gw, gh, by rw [g2 32 q (by omega) (by omega)]; exact b1, by rw [g2 33 q (by omega) (by omega)]; exact b2, b3⟩) rs2 (by show (((rmS (rmS S f (ch1 S0 p r)) s (ch2 S0 p r)).a 36 k0 (nI f)).a 36 (k0 + 1) (nI s)).2 36 (k0 + 1) = _; rw [MS.a_2, if_pos ⟨rfl, rfl⟩]) (by omega)
      have p36 : S3.2 36 k0 = nI f := by
        rw [a5.2 36 k0 (by omega) (by omega) (by omega)]
        show (((rmS (rmS S f (ch1 S0 p r)) s (ch2 S0 p r)).a 36 k0 (nI f)).a 36 (k0 + 1) (nI s)).2 36 k0 = _
        rw [MS.a_2, if_neg (by omega), MS.a_2, if_pos ⟨rfl, rfl⟩]
      have fnr : ¬ f ∈ lr := dj f hf.2.2.2.2
      obtain ⟨S4, N4, b1, b2, b3, b4, b5⟩ := ih (k0 := k0) (N := N3) (S := S3) h9 m3 k1 (nrm_rb (sp1_rb hr)) (by omega) (fun k c1 c2 => by rw [← hE k c1 c2]; funext i; rw [a5.2 k i (by omega) (by omega) (by omega)]; exact g2 k i (by omega) (by omega)) (fun q hq k => hD q (List.mem_cons_of_mem _ (List.mem_append_left _ hq)) k) (fun q hq k => by
        obtain ⟨gw, gh, c1, c2, c3⟩ := hg q (List.mem_cons_of_mem _ (List.mem_append_left _ hq)) k
        have u := (a5.fit (dj q hq)).1
        exact ⟨gw, gh, by rw [u 32 (by omega), g2 32 q (by omega) (by omega)]; exact c1, by rw [u 33 (by omega), g2 33 q (by omega) (by omega)]; exact c2, c3⟩) (rf2.eq (a5.rc fnr)) p36 (by omega)
      refine ⟨S4, N4, by rw [len]; omega, by rw [st, a2, b2], fun q hq => ?_, fun q hq k => ?_, ?_, fun k i c1 c2 c3 => ?_⟩
      · rcases List.mem_cons.mp hq with e | e
        · subst e
          rw [hL.1]
          exact (rp2.eq (a5.rc (fun h => m1 (List.mem_append_right _ h)))).eq (b5.rc (fun h => m1 (List.mem_append_left _ h)))
        · rcases List.mem_append.mp e with e | e
          · exact b3 q e
          · exact (a3 q e).eq (b5.rc (fun h => dj q h e))
      · rcases List.mem_cons.mp hq with e | e
        · subst e; rw [h5] at k; exact absurd k (by decide)
        · rcases List.mem_append.mp e with e | e
          · have u := a5.fit (dj q e)
            exact (b4 q e k).eq (fun k' hk' => ⟨by rw [u.1 k' hk', g2 k' q (by omega) (by omega)], rfl⟩) (fun k' i hk' c1 c2 => ⟨by rw [u.2 k' i hk' c1 c2, g2 k' i (by omega) (by omega)], rfl⟩)
          · have u := b5.fit (fun h => dj q h e)
            exact (a4 q e k).eq (fun k' hk' => ⟨by rw [g2 k' q (by omega) (by omega)], u.1 k' hk'⟩) (fun k' i hk' c1 c2 => ⟨by rw [g2 k' i (by omega) (by omega)], u.2 k' i hk' c1 c2⟩)
      · rw [b5.1, a5.1]
        rfl
      · have il : ∀ q, q ∈ ll → q ∈ p :: (ll ++ lr) := fun q h => List.mem_cons_of_mem _ (List.mem_append_left _ h)
        have ir : ∀ q, q ∈ lr → q ∈ p :: (ll ++ lr) := fun q h => List.mem_cons_of_mem _ (List.mem_append_right _ h)
        rw [b5.2 k i c1 (fun h => c2 ⟨h.1, il i h.2⟩) (fun h => c3 ⟨h.1, h.2.elim fun q' hq' => ⟨q', il q' hq'.1, hq'.2⟩⟩), a5.2 k i (fun h => by have := c1 h; omega) (fun h => c2 ⟨h.1, ir i h.2⟩) (fun h => c3 ⟨h.1, h.2.elim fun q' hq' => ⟨q', ir q' hq'.1, hq'.2⟩⟩)]
        by_cases ck : k = 36
        · subst ck
          have := c1 rfl
          show (((rmS (rmS S f (ch1 S0 p r)) s (ch2 S0 p r)).a 36 k0 (nI f)).a 36 (k0 + 1) (nI s)).2 36 i = _
          rw [MS.a_2, if_neg (by omega), MS.a_2, if_neg (by omega), rmS_2 (by omega), rmS_2 (by omega)]
        · refine g2 k i ck (fun h => c2 ⟨by omega, ?_⟩)
          rcases h.2.2 with e | e
          · rw [e]; exact il f hf.2.2.2.2
          · rw [e]; exact ir s hs.2.2.2.2
