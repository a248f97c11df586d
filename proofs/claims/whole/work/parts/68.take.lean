theorem WFz.keepg {S : MS} {a r : Nat} {φ : Nat → Int32} (H : WFz S a) (h1 : ¬ r ∈ frs) (h2 : ¬ r = 21) : WFz (S.g r φ) a := by
  intro p hp hq
  refine ⟨fun k hk => ?_, fun k hk => ?_⟩
  · rw [MS.g_2, if_neg (fun (q : k = r) => h1 (q ▸ hk))]; exact (H p hp hq).1 k hk
  · rw [MS.g_2, if_neg (fun (q : 21 = r) => h2 q.symm)]; exact (H p hp hq).2 k hk
theorem p_take {n b L ax am j : Nat} {h : gHp} (hI : Iv b L ax am j h) (hn : 5000 ≤ n) : PO_take n (Iv b L ax am (j + 1)) b L ax am h := by
  obtain ⟨A, ρ, K, S, a, e, ly, rfl, rfl, rfl, H⟩ := hI
  obtain ⟨H1, H2, H3, H4, H5⟩ := id H
  obtain ⟨f1, f2, f3, f4, f5⟩ := top_facts H1 H3.1
  obtain ⟨m, hm, em⟩ := bd_n H4.2.1.2.2.1
  obtain ⟨q1, q2, q3, q4, q5, q6⟩ := id H3.2.2.2.2.2.2.2.2.1
  have gt : gtag h (A 2 0) = some (0, 5) := f5
  by_cases c : m = 0
  · subst c
    refine PO_sm (r := -2) rfl rfl rfl H ?_ (by show f_M_take n S = _; unfold f_M_take; rw [if_pos (show S.1 41 = 0 from em)])
    have i4 : gint h (A 2 0) 4 = 0 := by rw [H1.int (c := 2) (p := 0) (t := (0, 5)) rfl, q1, em]; rfl
    have np : ¬ (0 : Int32) < 0 := by decide
    simp only [f_G_take, f_Events_tellOldest, f1, f3, f5, g99, gt0, gt0', cond_true, Option.bind_some, i4, np, if_false, reduceIte]
  · have S1e : RKe ((K.g 5 0 (fun k => if k < 44 then K.1 6 e k else K.1 5 0 k)).i 2 0 2 1) ((mvS S 0 20).f 42 1) e := by
      refine ⟨q1, rfl, q3, q4, fun i k hi hk => ?_, fun k hk => ?_⟩
      · have hi : i < ix (S.1 41) := hi
        have e0 := q5 i k hi hk
        rw [em, ixn (by omega)] at hi
        show K.1 6 ((e + i) % 20) k = (if 43 = 43 then (if 44 * 20 ≤ 44 * i + k ∧ 44 * i + k < 44 * 20 + 44 then S.2 43 (44 * 0 + (44 * i + k - 44 * 20)) else S.2 43 (44 * i + k)) else S.2 43 (44 * i + k))
        rw [if_pos rfl, if_neg (by omega), e0]
      · show (if k < 44 then K.1 6 e k else K.1 5 0 k) = (if 43 = 43 then (if 44 * 20 ≤ 880 + k ∧ 880 + k < 44 * 20 + 44 then S.2 43 (44 * 0 + (880 + k - 44 * 20)) else S.2 43 (880 + k)) else S.2 43 (880 + k))
        have e0 := q5 0 k (by rw [em, ixn (by omega)]; omega) hk
        rw [if_pos hk, if_pos rfl, if_pos (by omega), show 44 * 0 + (880 + k - 44 * 20) = 44 * 0 + k by omega, ← e0, show (e + 0) % 20 = e by omega]
    have S2e := S1e.drop (m := m) em (by omega) hm
    obtain ⟨h', g1, g2⟩ := e_tell H1 H3.1 n (by omega) hm (by rw [q1, em]) q3 q4
    have nz0 : ¬ S.1 41 = 0 := by rw [em, show (0 : Int32) = nI 0 from rfl, nI_eq (by omega) (by omega)]; omega
    have d1 : f_M_move n S 0 20 = some (mvS S 0 20) := e_move (f := 0) (t := 20) (by omega) S (by omega) (by omega) (by decide)
    have d2 : f_M_drop n ((mvS S 0 20).f 42 1) = some (dpS ((mvS S 0 20).f 42 1) m) := e_drop (by omega) _ em (by omega) hm
    have d3 : inB 880 924 = true := rfl
    have d4 : (dpS ((mvS S 0 20).f 42 1) m).2 43 (ix 880) = K.1 6 e 0 := by
      have := S2e.2.2.2.2.2 0 (by decide)
      rw [show ix (880 : Int32) = 880 + 0 from rfl, ← this]
      rfl
    have d5 : isZ 1 = true := rfl
    refine PO_mk (r := K.1 6 e 0) (S' := dpS ((mvS S 0 20).f 42 1) m) (ly' := ly) rfl rfl rfl H (by simp only [f_G_take, f1, f3, f5, g99, gt0', cond_true, Option.bind_some, g1]) (by show f_M_take n S = _; unfold f_M_take; rw [if_neg nz0, d1, Option.bind_some, d5, cond_true, d2, Option.bind_some, d3, cond_true, d4]) g2 ⟨rfl, rfl, rfl, rfl⟩ rfl ⟨H3.1, H3.2.1, H3.2.2.1, H3.2.2.2.1, H3.2.2.2.2.1, H3.2.2.2.2.2.1, H3.2.2.2.2.2.2.1, H3.2.2.2.2.2.2.2.1, S2e, H3.2.2.2.2.2.2.2.2.2⟩ ⟨H4.1, ⟨(H4.2.1.mono (Nat.le_succ j)).1, H4.2.1.2.1, ?_, Or.inr rfl⟩, H4.2.2.1, H4.2.2.2.1, (H4.2.2.2.2.1.keepg (r := 43) (by decide) (by decide)).keepg (r := 43) (by decide) (by decide), H4.2.2.2.2.2⟩ H5
    show bd (nI (m - 1)) 20
    unfold bd
    rw [nI_toInt (by omega)]
    omega
