/-! ===== a cell's three numbers ===== -/
theorem nI_or (a b : Nat) (ha : a < 2 ^ 31) (hb : b < 2 ^ 31) : nI a ||| nI b = nI (a ||| b) := by
  apply Int32.toBitVec_inj.mp
  apply BitVec.eq_of_toNat_eq
  rw [Int32.toBitVec_or, BitVec.toNat_or, pk_tn (by omega), pk_tn (by omega), pk_tn]
  exact Nat.or_lt_two_pow (Nat.lt_of_lt_of_le ha (by decide)) (Nat.lt_of_lt_of_le hb (by decide))
theorem cellv_n {s t l : Nat} (hs : s < 128) (ht : t < 16) (hl : l < 1000) : cellv (nI s) (nI t) (nI l) = nI (l * 2048 + (t * 128 + s)) := by
  unfold cellv
  rw [pk_shlN ((11 : Int32) &&& 31) 11 (by decide) (by omega), pk_shlN ((7 : Int32) &&& 31) 7 (by decide) (by omega), nI_or _ _ (by omega) (by omega)]
  have e1 : l * 2 ^ 11 ||| t * 2 ^ 7 = l * 2 ^ 11 + t * 2 ^ 7 := by
    have := Nat.two_pow_add_eq_or_of_lt (i := 11) (b := t * 2 ^ 7) (by omega) l
    rw [Nat.mul_comm l]; exact this.symm
  rw [e1, nI_or _ _ (by omega) (by omega)]
  have e2 : (l * 2 ^ 11 + t * 2 ^ 7) ||| s = l * 2 ^ 11 + t * 2 ^ 7 + s := by
    have := Nat.two_pow_add_eq_or_of_lt (i := 7) (b := s) (by omega) (l * 2 ^ 4 + t)
    have e3 : 2 ^ 7 * (l * 2 ^ 4 + t) = l * 2 ^ 11 + t * 2 ^ 7 := by omega
    rw [e3] at this; exact this.symm
  rw [e2, show l * 2 ^ 11 + t * 2 ^ 7 + s = l * 2048 + (t * 128 + s) by omega]
theorem bd_n {x : Int32} {N : Nat} (h : bd x N) : ∃ k, k ≤ N ∧ x = nI k := by
  have h1 := i32_ix h.1
  have := h.2
  exact ⟨ix x, by omega, (ixn' h.1).symm⟩
theorem e_signOf (n : Nat) (h : gHp) {s t l : Int32} (hs : bd s 127) (ht : bd t 10) (hl : bd l 999) : f_G_signOf n h (cellv s t l) = some (s, h) := by
  obtain ⟨s, hs, rfl⟩ := bd_n hs
  obtain ⟨t, ht, rfl⟩ := bd_n ht
  obtain ⟨l, hl, rfl⟩ := bd_n hl
  unfold f_G_signOf
  rw [cellv_n (by omega) (by omega) (by omega), pk_andN (by omega) 7 (by decide)]
  congr 3
  omega
theorem e_styleOf (n : Nat) (h : gHp) {s t l : Int32} (hs : bd s 127) (ht : bd t 10) (hl : bd l 999) : f_G_styleOf n h (cellv s t l) = some (t, h) := by
  obtain ⟨s, hs, rfl⟩ := bd_n hs
  obtain ⟨t, ht, rfl⟩ := bd_n ht
  obtain ⟨l, hl, rfl⟩ := bd_n hl
  unfold f_G_styleOf
  rw [cellv_n (by omega) (by omega) (by omega), pk_shrN (by omega) ((7 : Int32) &&& 31) 7 (by decide), pk_andN (by omega) 4 (by decide)]
  congr 3
  omega
theorem e_linkOf (n : Nat) (h : gHp) {s t l : Int32} (hs : bd s 127) (ht : bd t 10) (hl : bd l 999) : f_G_linkOf n h (cellv s t l) = some (l, h) := by
  obtain ⟨s, hs, rfl⟩ := bd_n hs
  obtain ⟨t, ht, rfl⟩ := bd_n ht
  obtain ⟨l, hl, rfl⟩ := bd_n hl
  unfold f_G_linkOf
  rw [cellv_n (by omega) (by omega) (by omega), pk_shrN (by omega) ((11 : Int32) &&& 31) 11 (by decide)]
  congr 3
  omega
theorem e_cell (n : Nat) (h : gHp) (s t l : Int32) : f_G_cell n h s t l = some (cellv s t l, h) := rfl
theorem sgn_bd {x : Int32} (h : sgn x) : bd x 127 := ⟨by have := h.1; omega, by have := h.2; omega⟩
/-! ===== the ring of events ===== -/
theorem RKe.drop {K : KS} {S : MS} {e m : Nat} (H : RKe K S e) (hm : S.1 41 = nI m) (h1 : 1 ≤ m) (h2 : m ≤ 20) : RKe ((K.i 2 0 3 (nI ((e + 1) % 20))).i 2 0 4 (nI (m - 1))) (dpS S m) ((e + 1) % 20) := by
  obtain ⟨q1, q2, q3, q4, q5, q6⟩ := H
  rw [hm] at q5
  rw [ixn (by omega)] at q5
  refine ⟨rfl, q2, rfl, by omega, fun i k hi hk => ?_, fun k hk => ?_⟩
  · have hi : i < ix (nI (m - 1)) := hi
    rw [ixn (by omega)] at hi
    have e1 := q5 (i + 1) k (by omega) hk
    show K.1 6 (((e + 1) % 20 + i) % 20) k = (if 43 = 43 then (if 44 * i + k < 44 * (m - 1) then S.2 43 (44 * i + k + 44) else S.2 43 (44 * i + k)) else S.2 43 (44 * i + k))
    rw [if_pos rfl, if_pos (by omega), show ((e + 1) % 20 + i) % 20 = (e + (i + 1)) % 20 by omega, e1, show 44 * (i + 1) + k = 44 * i + k + 44 by omega]
  · show K.1 5 0 k = (if 43 = 43 then (if 880 + k < 44 * (m - 1) then S.2 43 (880 + k + 44) else S.2 43 (880 + k)) else S.2 43 (880 + k))
    rw [if_pos rfl, if_neg (by omega)]
    exact q6 k hk
theorem RKe.add {K : KS} {S : MS} {e m : Nat} {φ ψ : Nat → Int32} (H : RKe K S e) (hm : S.1 41 = nI m) (h2 : m < 20) (hφ : ∀ k, k < 44 → φ k = ψ k) : RKe ((K.i 2 0 4 (nI (m + 1))).g 6 ((e + m) % 20) φ) ((S.g 43 (fun q => if 44 * m ≤ q ∧ q < 44 * m + 44 then ψ (q - 44 * m) else S.2 43 q)).f 41 (nI (m + 1))) e := by
  obtain ⟨q1, q2, q3, q4, q5, q6⟩ := H
  rw [hm] at q5
  rw [ixn (by omega)] at q5
  refine ⟨rfl, q2, q3, q4, fun i k hi hk => ?_, fun k hk => ?_⟩
  · have hi : i < ix (nI (m + 1)) := hi
    rw [ixn (by omega)] at hi
    rw [KS.g_1]
    show _ = (if 43 = 43 then (if 44 * m ≤ 44 * i + k ∧ 44 * i + k < 44 * m + 44 then ψ (44 * i + k - 44 * m) else S.2 43 (44 * i + k)) else S.2 43 (44 * i + k))
    rw [if_pos (show 43 = 43 from rfl)]
    by_cases c : i = m
    · subst c
      rw [if_pos ⟨rfl, rfl⟩, if_pos (by omega), hφ k hk, show 44 * i + k - 44 * i = k by omega]
    · rw [if_neg (by omega), if_neg (by omega)]
      exact q5 i k (by omega) hk
  · show K.1 5 0 k = (if 43 = 43 then (if 44 * m ≤ 880 + k ∧ 880 + k < 44 * m + 44 then ψ (880 + k - 44 * m) else S.2 43 (880 + k)) else S.2 43 (880 + k))
    rw [if_pos (show 43 = 43 from rfl), if_neg (by omega)]
    exact q6 k hk
/-- the ring's things -/
theorem ev_facts {h : gHp} {A : Nat → Nat → Nat} {ρ : Nat → Nat × Nat} {L a : Nat} {K : KS} {S : MS} {kd : Nat → Int32} (H : Hrep h A ρ (cT L a kd) K) (hS : RKs K a kd) : gtag h (A 2 0) = some (0, 5) ∧ gref h (A 2 0) 0 = some (A 4 0) ∧ gref h (A 2 0) 1 = some (A 5 0) ∧ gtag h (A 4 0) = some (23, 20) ∧ gtag h (A 5 0) = some (20, 44) ∧ (∀ i, i < 20 → gref h (A 4 0) i = some (A 6 i)) ∧ (∀ i, i < 20 → gtag h (A 6 i) = some (20, 44)) :=
  ⟨H.tag (c := 2) (p := 0) rfl, by rw [H.ref (c := 2) (p := 0) (t := (0, 5)) rfl, hS.2.2.2.1]; rfl, by rw [H.ref (c := 2) (p := 0) (t := (0, 5)) rfl, hS.2.2.2.2.1]; rfl, H.tag (c := 4) (p := 0) rfl, H.tag (c := 5) (p := 0) rfl, fun i hi => by rw [H.ref (c := 4) (p := 0) (t := (23, 20)) rfl, hS.2.2.2.2.2.1 i hi]; rfl, fun i hi => H.tag (cT6 hi)⟩
theorem rem20 {x : Nat} (h : x < 2 ^ 31) : nI x - nI x / (20 : Int32) * (20 : Int32) = nI (x % 20) := pk_rem (d := 20) h (by decide) (by decide)
theorem gA22 {i : Nat} (hi : i < 20) : (gArr (some (23, 20)) 22 (nI i) || gArr (some (23, 20)) 23 (nI i)) = true := by
  rw [gArr_n hi (by decide)]
  simp
theorem gt0 : gtin (some (0, 5)) [0] = true := rfl
theorem gt0' : gtis (some (0, 5)) 0 = true := rfl
theorem d20 : decide (¬ (20 : Int32) = 0) = true := rfl
set_option maxHeartbeats 4000000 in
theorem e_tell {h : gHp} {A : Nat → Nat → Nat} {ρ : Nat → Nat × Nat} {L a m e : Nat} {K : KS} {kd : Nat → Int32} (H : Hrep h A ρ (cT L a kd) K) (hS : RKs K a kd) (n : Nat) (h1 : 1 ≤ m) (h2 : m ≤ 20) (k4 : K.1 2 0 4 = nI m) (k3 : K.1 2 0 3 = nI e) (he : e < 20) : ∃ h', f_Events_tellOldest n h (A 2 0) = some (K.1 6 e 0, h') ∧ Hrep h' A ρ (cT L a kd) ((((K.g 5 0 (fun k => if k < 44 then K.1 6 e k else K.1 5 0 k)).i 2 0 2 1).i 2 0 3 (nI ((e + 1) % 20))).i 2 0 4 (nI (m - 1))) := by
  obtain ⟨f1, f2, f3, f4, f5, f6, f7⟩ := ev_facts (S := (fun _ => 0, fun _ _ => 0)) H hS
  have t2 : cT L a kd 2 0 = some (0, 5) := rfl
  have t5 : cT L a kd 5 0 = some (20, 44) := rfl
  have i4 : gint h (A 2 0) 4 = nI m := by rw [H.int t2, k4]
  have i3 : gint h (A 2 0) 3 = nI e := by rw [H.int t2, k3]
  have pos : (0 : Int32) < nI m := nI_lt (a := 0) (by omega) (by omega)
  have n25 : A 2 0 ≠ A 5 0 := H.ne t2 t5 (by omega)
  have cpk : gCpk h (A 6 e) (A 5 0) 0 0 44 = true := by
    unfold gCpk
    rw [f7 e he, f5]
    rfl
  have HC : Hrep (gcpy h (A 6 e) (A 5 0) 0 0 44) A ρ (cT L a kd) (K.g 5 0 (fun k => if k < 44 then K.1 6 e k else K.1 5 0 k)) := by
    refine H.g t5 (fun _ => rfl) (fun _ _ => rfl) (fun b k hb => ?_) (fun k => ?_)
    · rw [gint_cpy, if_neg (fun q => hb q.1)]
    · rw [gint_cpy]
      by_cases c : k < 44
      · rw [if_pos ⟨rfl, by omega, by omega⟩, if_pos c, H.int (cT6 he), show 0 + (k - 0) = k by omega]
      · rw [if_neg (by omega), if_neg c, H.int t5]
  refine ⟨_, ?_, ((HC.i t2 2 1).i t2 3 (nI ((e + 1) % 20))).i t2 4 (nI (m - 1))⟩
  have i3' : gint (gcpy h (A 6 e) (A 5 0) 0 0 44) (A 2 0) 3 = nI e := by rw [gint_cpy, if_neg (fun q => n25 q.1), i3]
  have i4' : gint (gcpy h (A 6 e) (A 5 0) 0 0 44) (A 2 0) 4 = nI m := by rw [gint_cpy, if_neg (fun q => n25 q.1), i4]
  have i5' : gint (gcpy h (A 6 e) (A 5 0) 0 0 44) (A 5 0) 0 = K.1 6 e 0 := by rw [gint_cpy, if_pos ⟨rfl, by omega, by omega⟩, H.int (cT6 he)]
  have e1 : nI (e + 1) - nI (e + 1) / (20 : Int32) * (20 : Int32) = nI ((e + 1) % 20) := rem20 (by omega)
  have e2 : nI m - 1 = nI (m - 1) := pk_sub (a := m) (b := 1) h1
  have ga : gArr (some (20, 44)) 20 0 = true := gArr_n (i := 0) (by decide) (by decide)
  have x44 : ix (44 : Int32) = 44 := rfl
  have x0 : ix (0 : Int32) = 0 := rfl
  unfold f_Events_tellOldest
  simp only [f1, gt0, cond_true, i4, if_pos pos, f2, f4, i3, Option.bind_some, gA22 he, f3, ixn (show e < 2 ^ 31 by omega), f6 e he, cpk, x44, x0, gtag_cpy, gtag_setI, gref_setI, gref_cpy, d20, gint_setI, i3', i4', i5', nI_1, e1, e2, f5, ga, n25, n25.symm, ne_eq, and_true, true_and, and_false, false_and, if_false, if_true, reduceIte, show ¬ (3 = 2) from by decide, show ¬ (4 = 3) from by decide, show ¬ (4 = 2) from by decide, show ¬ (A 5 0 = A 2 0) from n25.symm]
