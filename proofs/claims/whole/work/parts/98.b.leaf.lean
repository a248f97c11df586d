section LEAF
variable {h : gHp} {A : Nat → Nat → Nat} {ρ : Nat → Nat × Nat} {T : Nat → Nat → Option (Nat × Nat)} {K : KS} {c p c' p' x y n : Nat} {t t' : Nat × Nat}
theorem Hrep.ix (H : Hrep h A ρ T K) (ht : T c p = some t) (hx : A c p = x) (k : Nat) (v : Int32) : Hrep (gsetI h x k v) A ρ T (K.i c p k v) := by
  subst hx; exact H.i ht k v
theorem Hrep.rx (H : Hrep h A ρ T K) (ht : T c p = some t) (hx : A c p = x) (ht' : T c' p' = some t') (hy : A c' p' = y) (k : Nat) : Hrep (gsetR h x k (some y)) A ρ T (K.r c p k (some (c', p'))) := by
  subst hx hy
  exact H.r ht k (some (c', p')) (fun q hq => by cases hq; exact ⟨_, ht'⟩)
theorem Hrep.tagx (H : Hrep h A ρ T K) (ht : T c p = some t) (hx : A c p = x) : gtag h x = some t := by subst hx; exact H.tag ht
theorem KS.r_1 (K : KS) (c p k : Nat) (o : Option (Nat × Nat)) : (K.r c p k o).1 = K.1 := rfl
theorem KS.i_2 (K : KS) (c p k : Nat) (v : Int32) : (K.i c p k v).2 = K.2 := rfl
theorem KS.g_2 (K : KS) (c p : Nat) (φ : Nat → Int32) : (K.g c p φ).2 = K.2 := rfl
/-- a pane's own numbers -/
theorem new_pane {P : Nat} {num kdv : Int32} {Q : Option gv → gHp → Prop} (H : Hrep h A ρ T K) (ht : T 7 P = some t) (hx : A 7 P = x) (hg : gtin (some t) [1, 3, 4, 5, 6] = true) (hQ : ∀ h', Hrep h' A ρ T (((K.i 7 P 10 1).i 7 P 0 num).i 7 P 1 kdv) → Q none h') : w_Pane_new n h x num kdv Q := by
  have tg := H.tagx ht hx
  unfold w_Pane_new
  refine ⟨by rw [tg]; exact hg, by rw [gtag_setI, tg]; exact hg, by rw [gtag_setI, gtag_setI, tg]; exact hg, hQ _ ?_⟩
  exact ((H.ix ht hx 10 1).ix ht hx 0 num).ix ht hx 1 kdv
/-- what can be written to has asks and a line -/
theorem new_writing {P : Nat} {num kdv : Int32} {Q : Option gv → gHp → Prop} (H : Hrep h A ρ T K) (ht : T 7 P = some t) (hx : A 7 P = x) (hg : gtin (some t) [1, 3, 4, 5, 6] = true) (hg' : gtin (some t) [1, 6] = true) (t8 : T 8 P = none) (t9 : T 9 P = none) (t10 : T 10 P = none) (hQ : ∀ h' ρ' y8 y9 y10, Hrep h' (uA (uA (uA A 8 P y8) 9 P y9) 10 P y10) ρ' (uT (uT (uT T 8 P (21, 4)) 9 P (2, 3)) 10 P (20, 40)) ((((((((((K.i 7 P 10 1).i 7 P 0 num).i 7 P 1 kdv).z 8 P).r 7 P 11 (some (8, P))).z 9 P).z 10 P).r 9 P 0 (some (10, P))).r 7 P 12 (some (9, P)))) → Q none h') : w_Writing_new n h x num kdv Q := by
  unfold w_Writing_new
  refine new_pane H ht hx hg (fun h1 H1 => ⟨rfl, fun y8 f8 => ?_⟩)
  have H2 := H1.new f8 8 P t8 21 4
  have T2 : uT T 8 P (21, 4) 7 P = some t := by rw [uT_ne (by omega)]; exact ht
  have A2 : uA A 8 P y8 7 P = x := by rw [uA_ne (by omega)]; exact hx
  have g2 := H2.tagx T2 A2
  refine ⟨by rw [g2]; exact hg', fun y9 f9 => ?_⟩
  have H3 := H2.rx T2 A2 uT_of uA_of 11
  have T9 : uT T 8 P (21, 4) 9 P = none := by rw [uT_ne (by omega)]; exact t9
  have H4 := H3.new f9 9 P T9 2 3
  unfold w_Line_new
  intro y10 f10
  have T10 : uT (uT T 8 P (21, 4)) 9 P (2, 3) 10 P = none := by rw [uT_ne (by omega), uT_ne (by omega)]; exact t10
  have H5 := H4.new f10 10 P T10 20 40
  have T9' : uT (uT (uT T 8 P (21, 4)) 9 P (2, 3)) 10 P (20, 40) 9 P = some (2, 3) := by rw [uT_ne (by omega), uT_of]
  have A9' : uA (uA (uA A 8 P y8) 9 P y9) 10 P y10 9 P = y9 := by rw [uA_ne (by omega), uA_of]
  have g9 := H5.tagx T9' A9'
  refine ⟨by rw [g9]; rfl, rfl, ?_⟩
  have H6 := H5.rx T9' A9' uT_of uA_of 0
  have T7' : uT (uT (uT T 8 P (21, 4)) 9 P (2, 3)) 10 P (20, 40) 7 P = some t := by rw [uT_ne (by omega), uT_ne (by omega), uT_ne (by omega)]; exact ht
  have A7' : uA (uA (uA A 8 P y8) 9 P y9) 10 P y10 7 P = x := by rw [uA_ne (by omega), uA_ne (by omega), uA_ne (by omega)]; exact hx
  have g7 := H6.tagx T7' A7'
  have H7 := H6.rx T7' A7' T9' A9' 12
  exact ⟨by rw [g7]; exact hg', hQ _ _ y8 y9 y10 H7⟩
end LEAF
def LEAF (K : KS) (P k : Nat) (num : Int32) : Prop :=
  (∀ j, K.1 7 P j = if j = 1 then nI k else if j = 0 then num else if j = 10 then 1 else 0) ∧ K.2 7 P 2 = none ∧
  (k = 1 ∨ k = 2 → K.2 7 P 11 = some (8, P) ∧ K.2 7 P 12 = some (9, P) ∧ K.2 7 P 13 = some (11, P) ∧ K.2 9 P 0 = some (10, P) ∧ (∀ j, K.1 8 P j = 0) ∧ ∀ j, K.1 9 P j = 0) ∧
  (k = 1 → K.2 7 P 15 = some (12, P) ∧ K.2 12 P 0 = some (13, P) ∧ K.2 12 P 1 = some (14, P)) ∧ (k = 2 → ∀ t, t < 1440 → K.1 11 P t = 32)
section NL
variable {h : gHp} {A : Nat → Nat → Nat} {ρ : Nat → Nat × Nat} {L a n k : Nat} {kd kd' : Nat → Int32} {K : KS} {num : Int32} {Q : Option gv → gHp → Prop}
theorem new_leaf (H : Hrep h A ρ (cT L a kd) K) (hk : k ≤ 3) (hk' : kd' (a + 1) = nI k) (hkd : ∀ p, p ≤ a → kd' p = kd p) (hn : 2000 ≤ n) (hQ : ∀ x h' A' ρ' K', Hrep h' A' ρ' (cT L (a + 1) kd') K' → A' 7 (a + 1) = x → (∀ c p, ¬ (7 ≤ c ∧ c ≤ 14 ∧ p = a + 1) → A' c p = A c p) → (∀ c p j, ¬ (7 ≤ c ∧ c ≤ 14 ∧ p = a + 1) → K'.1 c p j = K.1 c p j ∧ K'.2 c p j = K.2 c p j) → LEAF K' (a + 1) k num → Q (some (.inr (some x))) h') : w_Tree_newLeaf n h num (nI k) Q := by
  have n0 : ∀ c, 7 ≤ c → c ≤ 14 → cT L a kd c (a + 1) = none := fun c h1 h2 => cT_new h1 h2 (by omega)
  unfold w_Tree_newLeaf
  refine ⟨fun c1 x fx => ?_, fun c1 => ⟨fun c2 x fx => ?_, fun c2 => ⟨fun c3 x fx => ?_, fun c3 x fx => ?_⟩⟩⟩
  · -- a text
    have ek : k = 1 := (nI_eq (b := 1) (by omega) (by omega)).mp c1
    subst ek
    have H1 := H.new fx 7 (a + 1) (n0 7 (by omega) (by omega)) 6 16
    unfold w_Text_new
    refine new_writing H1 uT_of uA_of rfl rfl (by rw [uT_ne (by omega)]; exact n0 8 (by omega) (by omega)) (by rw [uT_ne (by omega)]; exact n0 9 (by omega) (by omega)) (by rw [uT_ne (by omega)]; exact n0 10 (by omega) (by omega)) (fun h2 ρ2 y8 y9 y10 H2 => ⟨rfl, fun y11 f11 => ?_⟩)
    have H3 := H2.new f11 11 (a + 1) (by simp only [uT]; rw [if_neg (by omega), if_neg (by omega), if_neg (by omega), if_neg (by omega)]; exact n0 11 (by omega) (by omega)) 20 400
    have T3 : ∀ t : Nat × Nat, uT (uT (uT (uT (uT (cT L a kd) 7 (a + 1) (6, 16)) 8 (a + 1) (21, 4)) 9 (a + 1) (2, 3)) 10 (a + 1) (20, 40)) 11 (a + 1) t 7 (a + 1) = some (6, 16) := fun t => by simp [uT]
    have A3 : uA (uA (uA (uA (uA A 7 (a + 1) x) 8 (a + 1) y8) 9 (a + 1) y9) 10 (a + 1) y10) 11 (a + 1) y11 7 (a + 1) = x := by simp [uA]
    have g3 := H3.tagx (T3 _) A3
    refine ⟨by rw [g3]; rfl, fun y12 f12 => ?_⟩
    have H4 := H3.rx (T3 _) A3 uT_of uA_of 13
    have H5 := H4.new f12 12 (a + 1) (by simp only [uT]; rw [if_neg (by omega), if_neg (by omega), if_neg (by omega), if_neg (by omega), if_neg (by omega)]; exact n0 12 (by omega) (by omega)) 8 3
    unfold w_Wrap_new
    intro y13 f13
    have H6 := H5.new f13 13 (a + 1) (by simp only [uT]; rw [if_neg (by omega), if_neg (by omega), if_neg (by omega), if_neg (by omega), if_neg (by omega), if_neg (by omega)]; exact n0 13 (by omega) (by omega)) 20 441
    have g6 := H6.tagx (c := 12) (p := a + 1) (t := (8, 3)) (x := y12) (by simp [uT]) (by simp [uA])
    refine ⟨by rw [g6]; rfl, fun y14 f14 => ?_⟩
    have H7 := H6.rx (c := 12) (p := a + 1) (t := (8, 3)) (x := y12) (by simp [uT]) (by simp [uA]) uT_of uA_of 0
    have H8 := H7.new f14 14 (a + 1) (by simp only [uT]; rw [if_neg (by omega), if_neg (by omega), if_neg (by omega), if_neg (by omega), if_neg (by omega), if_neg (by omega), if_neg (by omega)]; exact n0 14 (by omega) (by omega)) 20 441
    have g8 := H8.tagx (c := 12) (p := a + 1) (t := (8, 3)) (x := y12) (by simp [uT]) (by simp [uA])
    have H9 := H8.rx (c := 12) (p := a + 1) (t := (8, 3)) (x := y12) (by simp [uT]) (by simp [uA]) uT_of uA_of 1
    refine ⟨by rw [g8]; rfl, rfl, ?_⟩
    have g9 := H9.tagx (c := 7) (p := a + 1) (t := (6, 16)) (x := x) (by simp [uT]) (by simp [uA])
    have H10 := H9.rx (c := 7) (p := a + 1) (t := (6, 16)) (x := x) (c' := 12) (p' := a + 1) (t' := (8, 3)) (y := y12) (by simp [uT]) (by simp [uA]) (by simp [uT]) (by simp [uA]) 15
    refine ⟨by rw [g9]; rfl, rfl, hQ x _ _ _ _ (H10.congT (fun c p => ?_)) (by simp [uA]) (fun c p hc => ?_) (fun c p j hc => ⟨?_, ?_⟩) ⟨fun j => ?_, ?_, fun _ => ⟨?_, ?_, ?_, ?_, fun j => ?_, fun j => ?_⟩, fun _ => ⟨?_, ?_, ?_⟩, fun q => by omega⟩⟩
    · rw [cT_succ hkd]
      by_cases q : 7 ≤ c ∧ c ≤ 14 ∧ p = a + 1
      · obtain ⟨q1, q2, rfl⟩ := q
        rw [if_pos ⟨q1, q2, rfl⟩, hk']
        rcases (by omega : c = 7 ∨ c = 8 ∨ c = 9 ∨ c = 10 ∨ c = 11 ∨ c = 12 ∨ c = 13 ∨ c = 14) with rfl | rfl | rfl | rfl | rfl | rfl | rfl | rfl <;> simp [uT, oIf, cTag, wrK, show nI 1 = 1 from rfl]
      · rw [if_neg q]
        simp only [uT]
        rw [if_neg (by omega), if_neg (by omega), if_neg (by omega), if_neg (by omega), if_neg (by omega), if_neg (by omega), if_neg (by omega), if_neg (by omega)]
    · simp only [uA]
      rw [if_neg (by omega), if_neg (by omega), if_neg (by omega), if_neg (by omega), if_neg (by omega), if_neg (by omega), if_neg (by omega), if_neg (by omega)]
    · simp only [KS.z_1, KS.i_1, KS.r_1]
      repeat rw [if_neg (by omega)]
    · simp only [KS.z_2, KS.i_2, KS.r_2]
      repeat rw [if_neg (by omega)]
    · simp [KS.z_1, KS.i_1, KS.r_1, show nI 1 = 1 from rfl]
    · simp [KS.z_2, KS.i_2, KS.r_2]
    · simp [KS.z_2, KS.i_2, KS.r_2]
    · simp [KS.z_2, KS.i_2, KS.r_2]
    · simp [KS.z_2, KS.i_2, KS.r_2]
    · simp [KS.z_2, KS.i_2, KS.r_2]
    · simp [KS.z_1, KS.i_1, KS.r_1]
    · simp [KS.z_1, KS.i_1, KS.r_1]
    · simp [KS.z_2, KS.i_2, KS.r_2]
    · simp [KS.z_2, KS.i_2, KS.r_2]
    · simp [KS.z_2, KS.i_2, KS.r_2]
  · -- a grid
    have ek : k = 2 := (nI_eq (b := 2) (by omega) (by omega)).mp c2
    subst ek
    have H1 := H.new fx 7 (a + 1) (n0 7 (by omega) (by omega)) 1 16
    unfold w_Grid_new
    refine new_writing H1 uT_of uA_of rfl rfl (by rw [uT_ne (by omega)]; exact n0 8 (by omega) (by omega)) (by rw [uT_ne (by omega)]; exact n0 9 (by omega) (by omega)) (by rw [uT_ne (by omega)]; exact n0 10 (by omega) (by omega)) (fun h2 ρ2 y8 y9 y10 H2 => ⟨rfl, fun y11 f11 => ?_⟩)
    have H3 := H2.new f11 11 (a + 1) (by simp only [uT]; rw [if_neg (by omega), if_neg (by omega), if_neg (by omega), if_neg (by omega)]; exact n0 11 (by omega) (by omega)) 20 1440
    have g3 := H3.tagx (c := 7) (p := a + 1) (t := (1, 16)) (x := x) (by simp [uT]) (by simp [uA])
    have H4 := H3.rx (c := 7) (p := a + 1) (t := (1, 16)) (x := x) (by simp [uT]) (by simp [uA]) uT_of uA_of 13
    have g11 := H4.tagx (c := 11) (p := a + 1) (t := (20, 1440)) (x := y11) (by simp [uT]) (by simp [uA])
    have rr : gref (gsetR (gnew h2 y11 20 1440) x 13 (some y11)) x 13 = some y11 := by rw [gref_setR, if_pos ⟨rfl, rfl⟩]
    have ef : f_Arrays_fill_2 n (gsetR (gnew h2 y11 20 1440) x 13 (some y11)) (some y11) 32 = some (gfil (gsetR (gnew h2 y11 20 1440) x 13 (some y11)) y11 32 0 1440) := by
      unfold f_Arrays_fill_2
      simp only [Option.bind_some, g11, show (Nat.ble 20 20 && Nat.ble 20 24) = true from rfl, cond_true]
      exact e_fill2 n _ y11 1440 1440 0 32 g11 (by omega) (by decide) (by omega) (by omega)
    refine ⟨by rw [g3]; rfl, by show gtin (gtag (gnew h2 y11 20 1440) x) [1] = true; rw [g3]; rfl, _, by rw [rr]; exact ef, rfl, ?_⟩
    have T11 : uT (uT (uT (uT (uT (cT L a kd) 7 (a + 1) (1, 16)) 8 (a + 1) (21, 4)) 9 (a + 1) (2, 3)) 10 (a + 1) (20, 40)) 11 (a + 1) (20, 1440) 11 (a + 1) = some (20, 1440) := uT_of
    have A11 : uA (uA (uA (uA (uA A 7 (a + 1) x) 8 (a + 1) y8) 9 (a + 1) y9) 10 (a + 1) y10) 11 (a + 1) y11 11 (a + 1) = y11 := uA_of
    have H5 := H4.g (h' := gfil (gsetR (gnew h2 y11 20 1440) x 13 (some y11)) y11 32 0 1440) (φ := fun t => if t < 1440 then 32 else 0) T11 (fun _ => rfl) (fun _ _ => rfl) (fun b k hb => by rw [gint_fil, if_neg (fun q => hb (by rw [A11]; exact q.1))]) (fun k => by
      rw [A11, gint_fil]
      by_cases q : k < 1440
      · rw [if_pos ⟨rfl, by omega, q⟩, if_pos q]
      · rw [if_neg (by omega), if_neg q, gint_setR, gint_new, if_pos rfl])
    refine hQ x _ _ _ _ (H5.congT (fun c p => ?_)) (by simp [uA]) (fun c p hc => ?_) (fun c p j hc => ⟨?_, ?_⟩) ⟨fun j => ?_, ?_, fun _ => ⟨?_, ?_, ?_, ?_, fun j => ?_, fun j => ?_⟩, fun q => by omega, fun _ t ht => ?_⟩
    · rw [cT_succ hkd]
      by_cases q : 7 ≤ c ∧ c ≤ 14 ∧ p = a + 1
      · obtain ⟨q1, q2, rfl⟩ := q
        rw [if_pos ⟨q1, q2, rfl⟩, hk']
        rcases (by omega : c = 7 ∨ c = 8 ∨ c = 9 ∨ c = 10 ∨ c = 11 ∨ c = 12 ∨ c = 13 ∨ c = 14) with rfl | rfl | rfl | rfl | rfl | rfl | rfl | rfl <;> simp [uT, oIf, cTag, wrK, show nI 2 = 2 from rfl, n0 12 (by omega) (by omega), n0 13 (by omega) (by omega), n0 14 (by omega) (by omega)]
      · rw [if_neg q]
        simp only [uT]
        rw [if_neg (by omega), if_neg (by omega), if_neg (by omega), if_neg (by omega), if_neg (by omega)]
    · simp only [uA]
      rw [if_neg (by omega), if_neg (by omega), if_neg (by omega), if_neg (by omega), if_neg (by omega)]
    · simp only [KS.g_1, KS.z_1, KS.i_1, KS.r_1]
      repeat rw [if_neg (by omega)]
    · simp only [KS.g_2, KS.z_2, KS.i_2, KS.r_2]
      repeat rw [if_neg (by omega)]
    · simp [KS.g_1, KS.z_1, KS.i_1, KS.r_1, show nI 2 = 2 from rfl]
    · simp [KS.g_2, KS.z_2, KS.i_2, KS.r_2]
    · simp [KS.g_2, KS.z_2, KS.i_2, KS.r_2]
    · simp [KS.g_2, KS.z_2, KS.i_2, KS.r_2]
    · simp [KS.g_2, KS.z_2, KS.i_2, KS.r_2]
    · simp [KS.g_2, KS.z_2, KS.i_2, KS.r_2]
    · simp [KS.g_1, KS.z_1, KS.i_1, KS.r_1]
    · simp [KS.g_1, KS.z_1, KS.i_1, KS.r_1]
    · simp [KS.g_1, ht]
  · -- a picture
    have ek : k = 3 := (nI_eq (b := 3) (by omega) (by omega)).mp c3
    subst ek
    have H1 := H.new fx 7 (a + 1) (n0 7 (by omega) (by omega)) 5 12
    unfold w_Picture_new
    refine new_pane H1 uT_of uA_of rfl (fun h2 H2 => ⟨rfl, rfl, hQ x _ _ _ _ (H2.congT (fun c p => ?_)) uA_of (fun c p hc => ?_) (fun c p j hc => ⟨?_, ?_⟩) ⟨fun j => ?_, ?_, fun q => by omega, fun q => by omega, fun q => by omega⟩⟩)
    · rw [cT_succ hkd]
      by_cases q : 7 ≤ c ∧ c ≤ 14 ∧ p = a + 1
      · obtain ⟨q1, q2, rfl⟩ := q
        rw [if_pos ⟨q1, q2, rfl⟩, hk']
        rcases (by omega : c = 7 ∨ c = 8 ∨ c = 9 ∨ c = 10 ∨ c = 11 ∨ c = 12 ∨ c = 13 ∨ c = 14) with rfl | rfl | rfl | rfl | rfl | rfl | rfl | rfl <;> simp [uT, oIf, cTag, wrK, show nI 3 = 3 from rfl, n0 8 (by omega) (by omega), n0 9 (by omega) (by omega), n0 10 (by omega) (by omega), n0 11 (by omega) (by omega), n0 12 (by omega) (by omega), n0 13 (by omega) (by omega), n0 14 (by omega) (by omega)]
      · rw [if_neg q]
        simp only [uT]
        rw [if_neg (by omega)]
    · simp only [uA]
      rw [if_neg (by omega)]
    · simp only [KS.z_1, KS.i_1]
      repeat rw [if_neg (by omega)]
    · simp only [KS.z_2, KS.i_2]
      repeat rw [if_neg (by omega)]
    · simp [KS.z_1, KS.i_1, show nI 3 = 3 from rfl]
    · simp [KS.z_2, KS.i_2]
  · -- a blank
    have ek : k = 0 := by
      rcases (by omega : k = 0 ∨ k = 1 ∨ k = 2 ∨ k = 3) with q | q | q | q
      · exact q
      · exact absurd (by rw [q]; rfl) c1
      · exact absurd (by rw [q]; rfl) c2
      · exact absurd (by rw [q]; rfl) c3
    subst ek
    have H1 := H.new fx 7 (a + 1) (n0 7 (by omega) (by omega)) 4 11
    refine new_pane H1 uT_of uA_of rfl (fun h2 H2 => ⟨rfl, hQ x _ _ _ _ (H2.congT (fun c p => ?_)) uA_of (fun c p hc => ?_) (fun c p j hc => ⟨?_, ?_⟩) ⟨fun j => ?_, ?_, fun q => by omega, fun q => by omega, fun q => by omega⟩⟩)
    · rw [cT_succ hkd]
      by_cases q : 7 ≤ c ∧ c ≤ 14 ∧ p = a + 1
      · obtain ⟨q1, q2, rfl⟩ := q
        rw [if_pos ⟨q1, q2, rfl⟩, hk']
        rcases (by omega : c = 7 ∨ c = 8 ∨ c = 9 ∨ c = 10 ∨ c = 11 ∨ c = 12 ∨ c = 13 ∨ c = 14) with rfl | rfl | rfl | rfl | rfl | rfl | rfl | rfl <;> simp [uT, oIf, cTag, wrK, show nI 0 = 0 from rfl, n0 8 (by omega) (by omega), n0 9 (by omega) (by omega), n0 10 (by omega) (by omega), n0 11 (by omega) (by omega), n0 12 (by omega) (by omega), n0 13 (by omega) (by omega), n0 14 (by omega) (by omega)]
      · rw [if_neg q]
        simp only [uT]
        rw [if_neg (by omega)]
    · simp only [uA]
      rw [if_neg (by omega)]
    · simp only [KS.z_1, KS.i_1]
      repeat rw [if_neg (by omega)]
    · simp only [KS.z_2, KS.i_2]
      repeat rw [if_neg (by omega)]
    · simp [KS.z_1, KS.i_1, show nI 0 = 0 from rfl]
    · simp [KS.z_2, KS.i_2]
end NL
