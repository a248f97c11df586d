/-! ===== rows of the abstract machine: one instruction each ===== -/
section GR
variable {C : gMeth → List gv → gHp → (Option gv → gHp → Prop) → Prop} {y : gMeth} {Q : Option gv → gHp → Prop} {pc : Nat} {ls : List (Option gv)} {st : List gv} {h : gHp} {cc ss : Nat}
theorem w_null (hi : gLk pc y.T = some (.aconst_null, 1)) (k : gWP C y Q (pc + 1) ls (.inr none :: st) h cc ss) : gWP C y Q pc ls st h cc ss := gWP.step hi (Or.inl rfl) k
theorem w_iconst {n : Int} {v : Int32} (hi : gLk pc y.T = some (.iconst n, 1)) (hv : Int32.ofInt n = v) (k : gWP C y Q (pc + 1) ls (.inl v :: st) h cc ss) : gWP C y Q pc ls st h cc ss := by
  subst hv
  exact gWP.step hi (Or.inl rfl) k
theorem w_bipush {n : Int} {v : Int32} (hi : gLk pc y.T = some (.bipush n, 2)) (hv : (Int8.ofInt n).toInt32 = v) (k : gWP C y Q (pc + 2) ls (.inl v :: st) h cc ss) : gWP C y Q pc ls st h cc ss := by
  subst hv
  exact gWP.step hi (Or.inl rfl) k
theorem w_sipush {n : Int} {v : Int32} (hi : gLk pc y.T = some (.sipush n, 3)) (hv : (Int16.ofInt n).toInt32 = v) (k : gWP C y Q (pc + 3) ls (.inl v :: st) h cc ss) : gWP C y Q pc ls st h cc ss := by
  subst hv
  exact gWP.step hi (Or.inl rfl) k
theorem w_ldc {idx : Nat} {v : Int32} (hi : gLk pc y.T = some (.ldc idx, 2)) (hv : gCst y.O idx = some v) (k : gWP C y Q (pc + 2) ls (.inl v :: st) h cc ss) : gWP C y Q pc ls st h cc ss := gWP.step hi (Or.inl rfl) ⟨v, hv, k⟩
theorem w_iload_n {j : Fin 4} {x : Int32} (hi : gLk pc y.T = some (.iload_n j, 1)) (hl : ls[j.val]? = some (some (.inl x))) (k : gWP C y Q (pc + 1) ls (.inl x :: st) h cc ss) : gWP C y Q pc ls st h cc ss := gWP.step hi (Or.inl rfl) ⟨x, hl, k⟩
theorem w_iload {j : Nat} {x : Int32} (hi : gLk pc y.T = some (.iload j, 2)) (hl : ls[j]? = some (some (.inl x))) (k : gWP C y Q (pc + 2) ls (.inl x :: st) h cc ss) : gWP C y Q pc ls st h cc ss := gWP.step hi (Or.inl rfl) ⟨x, hl, k⟩
theorem w_aload_n {j : Fin 4} {o : Option Nat} (hi : gLk pc y.T = some (.aload_n j, 1)) (hl : ls[j.val]? = some (some (.inr o))) (k : gWP C y Q (pc + 1) ls (.inr o :: st) h cc ss) : gWP C y Q pc ls st h cc ss := gWP.step hi (Or.inl rfl) ⟨o, hl, k⟩
theorem w_aload {j : Nat} {o : Option Nat} (hi : gLk pc y.T = some (.aload j, 2)) (hl : ls[j]? = some (some (.inr o))) (k : gWP C y Q (pc + 2) ls (.inr o :: st) h cc ss) : gWP C y Q pc ls st h cc ss := gWP.step hi (Or.inl rfl) ⟨o, hl, k⟩
theorem w_istore_n {j : Fin 4} {x : Int32} {ls' : List (Option gv)} (hi : gLk pc y.T = some (.istore_n j, 1)) (hl : j.val < ls.length) (he : ls.set j.val (some (.inl x)) = ls') (k : gWP C y Q (pc + 1) ls' st h cc ss) : gWP C y Q pc ls (.inl x :: st) h cc ss := by
  subst he
  exact gWP.step hi (Or.inl rfl) ⟨x, st, rfl, hl, k⟩
theorem w_istore {j : Nat} {x : Int32} {ls' : List (Option gv)} (hi : gLk pc y.T = some (.istore j, 2)) (hl : j < ls.length) (he : ls.set j (some (.inl x)) = ls') (k : gWP C y Q (pc + 2) ls' st h cc ss) : gWP C y Q pc ls (.inl x :: st) h cc ss := by
  subst he
  exact gWP.step hi (Or.inl rfl) ⟨x, st, rfl, hl, k⟩
theorem w_astore_n {j : Fin 4} {o : Option Nat} {ls' : List (Option gv)} (hi : gLk pc y.T = some (.astore_n j, 1)) (hl : j.val < ls.length) (he : ls.set j.val (some (.inr o)) = ls') (k : gWP C y Q (pc + 1) ls' st h cc ss) : gWP C y Q pc ls (.inr o :: st) h cc ss := by
  subst he
  exact gWP.step hi (Or.inl rfl) ⟨o, st, rfl, hl, k⟩
theorem w_astore {j : Nat} {o : Option Nat} {ls' : List (Option gv)} (hi : gLk pc y.T = some (.astore j, 2)) (hl : j < ls.length) (he : ls.set j (some (.inr o)) = ls') (k : gWP C y Q (pc + 2) ls' st h cc ss) : gWP C y Q pc ls (.inr o :: st) h cc ss := by
  subst he
  exact gWP.step hi (Or.inl rfl) ⟨o, st, rfl, hl, k⟩
theorem w_iinc {j : Nat} {n : Int} {x v : Int32} {ls' : List (Option gv)} (hi : gLk pc y.T = some (.iinc j n, 3)) (hl : ls[j]? = some (some (.inl x))) (hv : Int32.ofInt n = v) (he : ls.set j (some (.inl (x + v))) = ls') (k : gWP C y Q (pc + 3) ls' st h cc ss) : gWP C y Q pc ls st h cc ss := by
  subst hv
  subst he
  exact gWP.step hi (Or.inl rfl) ⟨x, hl, k⟩
theorem w_iadd {a b : Int32} (hi : gLk pc y.T = some (.iadd, 1)) (k : gWP C y Q (pc + 1) ls (.inl (a + b) :: st) h cc ss) : gWP C y Q pc ls (.inl b :: .inl a :: st) h cc ss := gWP.step hi (Or.inl rfl) ⟨a, b, st, rfl, k⟩
theorem w_isub {a b : Int32} (hi : gLk pc y.T = some (.isub, 1)) (k : gWP C y Q (pc + 1) ls (.inl (a - b) :: st) h cc ss) : gWP C y Q pc ls (.inl b :: .inl a :: st) h cc ss := gWP.step hi (Or.inl rfl) ⟨a, b, st, rfl, k⟩
theorem w_imul {a b : Int32} (hi : gLk pc y.T = some (.imul, 1)) (k : gWP C y Q (pc + 1) ls (.inl (a * b) :: st) h cc ss) : gWP C y Q pc ls (.inl b :: .inl a :: st) h cc ss := gWP.step hi (Or.inl rfl) ⟨a, b, st, rfl, k⟩
theorem w_iand {a b : Int32} (hi : gLk pc y.T = some (.iand, 1)) (k : gWP C y Q (pc + 1) ls (.inl (a &&& b) :: st) h cc ss) : gWP C y Q pc ls (.inl b :: .inl a :: st) h cc ss := gWP.step hi (Or.inl rfl) ⟨a, b, st, rfl, k⟩
theorem w_ior {a b : Int32} (hi : gLk pc y.T = some (.ior, 1)) (k : gWP C y Q (pc + 1) ls (.inl (a ||| b) :: st) h cc ss) : gWP C y Q pc ls (.inl b :: .inl a :: st) h cc ss := gWP.step hi (Or.inl rfl) ⟨a, b, st, rfl, k⟩
theorem w_ixor {a b : Int32} (hi : gLk pc y.T = some (.ixor, 1)) (k : gWP C y Q (pc + 1) ls (.inl (a ^^^ b) :: st) h cc ss) : gWP C y Q pc ls (.inl b :: .inl a :: st) h cc ss := gWP.step hi (Or.inl rfl) ⟨a, b, st, rfl, k⟩
theorem w_ishl {a b : Int32} (hi : gLk pc y.T = some (.ishl, 1)) (k : gWP C y Q (pc + 1) ls (.inl (a <<< (b &&& 31)) :: st) h cc ss) : gWP C y Q pc ls (.inl b :: .inl a :: st) h cc ss := gWP.step hi (Or.inl rfl) ⟨a, b, st, rfl, k⟩
theorem w_ishr {a b : Int32} (hi : gLk pc y.T = some (.ishr, 1)) (k : gWP C y Q (pc + 1) ls (.inl (a >>> (b &&& 31)) :: st) h cc ss) : gWP C y Q pc ls (.inl b :: .inl a :: st) h cc ss := gWP.step hi (Or.inl rfl) ⟨a, b, st, rfl, k⟩
theorem w_idiv {a b : Int32} (hi : gLk pc y.T = some (.idiv, 1)) (hb : ¬ b = 0) (k : gWP C y Q (pc + 1) ls (.inl (a / b) :: st) h cc ss) : gWP C y Q pc ls (.inl b :: .inl a :: st) h cc ss := gWP.step hi (Or.inl rfl) ⟨a, b, st, rfl, hb, k⟩
theorem w_irem {a b : Int32} (hi : gLk pc y.T = some (.irem, 1)) (hb : ¬ b = 0) (k : gWP C y Q (pc + 1) ls (.inl (a - a / b * b) :: st) h cc ss) : gWP C y Q pc ls (.inl b :: .inl a :: st) h cc ss := gWP.step hi (Or.inl rfl) ⟨a, b, st, rfl, hb, k⟩
theorem w_dup {v : gv} (hi : gLk pc y.T = some (.dup, 1)) (k : gWP C y Q (pc + 1) ls (v :: v :: st) h cc ss) : gWP C y Q pc ls (v :: st) h cc ss := gWP.step hi (Or.inl rfl) ⟨v, st, rfl, k⟩
theorem w_dup2 {v w : gv} (hi : gLk pc y.T = some (.dup2, 1)) (k : gWP C y Q (pc + 1) ls (v :: w :: v :: w :: st) h cc ss) : gWP C y Q pc ls (v :: w :: st) h cc ss := gWP.step hi (Or.inl rfl) ⟨v, w, st, rfl, k⟩
theorem w_pop {v : gv} (hi : gLk pc y.T = some (.pop, 1)) (k : gWP C y Q (pc + 1) ls st h cc ss) : gWP C y Q pc ls (v :: st) h cc ss := gWP.step hi (Or.inl rfl) ⟨v, st, rfl, k⟩
theorem w_if {c : ClassFile.Cond} {off : Int} {x : Int32} {t : Nat} (hi : gLk pc y.T = some (.ifCond c off, 3)) (ht : (pc : Int) + off = (t : Int)) (k1 : gCmp c x 0 → gWP C y Q t ls st h cc ss) (k2 : ¬ gCmp c x 0 → gWP C y Q (pc + 3) ls st h cc ss) : gWP C y Q pc ls (.inl x :: st) h cc ss := gWP.step hi (Or.inl rfl) ⟨x, st, t, rfl, ht, k1, k2⟩
theorem w_icmp {c : ClassFile.Cond} {off : Int} {a b : Int32} {t : Nat} (hi : gLk pc y.T = some (.if_icmp c off, 3)) (ht : (pc : Int) + off = (t : Int)) (k1 : gCmp c a b → gWP C y Q t ls st h cc ss) (k2 : ¬ gCmp c a b → gWP C y Q (pc + 3) ls st h cc ss) : gWP C y Q pc ls (.inl b :: .inl a :: st) h cc ss := gWP.step hi (Or.inl rfl) ⟨a, b, st, t, rfl, ht, k1, k2⟩
theorem w_acmp_eq {off : Int} {a b : Option Nat} {t : Nat} (hi : gLk pc y.T = some (.if_acmp .eq off, 3)) (ht : (pc : Int) + off = (t : Int)) (k1 : a = b → gWP C y Q t ls st h cc ss) (k2 : ¬ a = b → gWP C y Q (pc + 3) ls st h cc ss) : gWP C y Q pc ls (.inr b :: .inr a :: st) h cc ss := gWP.step hi (Or.inl rfl) ⟨a, b, st, t, rfl, ht, k1, k2⟩
theorem w_acmp_ne {off : Int} {a b : Option Nat} {t : Nat} (hi : gLk pc y.T = some (.if_acmp .ne off, 3)) (ht : (pc : Int) + off = (t : Int)) (k1 : ¬ a = b → gWP C y Q t ls st h cc ss) (k2 : a = b → gWP C y Q (pc + 3) ls st h cc ss) : gWP C y Q pc ls (.inr b :: .inr a :: st) h cc ss := gWP.step hi (Or.inl rfl) ⟨a, b, st, t, rfl, ht, k1, k2⟩
theorem w_ifnull {off : Int} {o : Option Nat} {t : Nat} (hi : gLk pc y.T = some (.ifnull off, 3)) (ht : (pc : Int) + off = (t : Int)) (k1 : o = none → gWP C y Q t ls st h cc ss) (k2 : ¬ o = none → gWP C y Q (pc + 3) ls st h cc ss) : gWP C y Q pc ls (.inr o :: st) h cc ss := gWP.step hi (Or.inl rfl) ⟨o, st, t, rfl, ht, k1, k2⟩
theorem w_ifnonnull {off : Int} {o : Option Nat} {t : Nat} (hi : gLk pc y.T = some (.ifnonnull off, 3)) (ht : (pc : Int) + off = (t : Int)) (k1 : ¬ o = none → gWP C y Q t ls st h cc ss) (k2 : o = none → gWP C y Q (pc + 3) ls st h cc ss) : gWP C y Q pc ls (.inr o :: st) h cc ss := gWP.step hi (Or.inl rfl) ⟨o, st, t, rfl, ht, k1, k2⟩
theorem w_goto {off : Int} {t : Nat} (hi : gLk pc y.T = some (.goto off, 3)) (ht : (pc : Int) + off = (t : Int)) (k : gWP C y Q t ls st h cc ss) : gWP C y Q pc ls st h cc ss := gWP.step hi (Or.inl rfl) ⟨t, ht, k⟩
theorem w_ireturn {x : Int32} (hi : gLk pc y.T = some (.ireturn, 1)) (hn : gNarR y.R x) (hc : cc ≤ y.mc) (hs : ss ≤ y.ms) (hq : Q (some (.inl x)) h) : gWP C y Q pc ls [.inl x] h cc ss := gWP.step hi (Or.inl rfl) ⟨x, rfl, hn, hq, hc, hs⟩
theorem w_areturn {o : Option Nat} (hi : gLk pc y.T = some (.areturn, 1)) (hn : gRefR y.R) (hc : cc ≤ y.mc) (hs : ss ≤ y.ms) (hq : Q (some (.inr o)) h) : gWP C y Q pc ls [.inr o] h cc ss := gWP.step hi (Or.inl rfl) ⟨o, rfl, hn, hq, hc, hs⟩
theorem w_return (hi : gLk pc y.T = some (.return_, 1)) (hn : y.R = none) (hc : cc ≤ y.mc) (hs : ss ≤ y.ms) (hq : Q none h) : gWP C y Q pc ls [] h cc ss := gWP.step hi (Or.inl rfl) ⟨rfl, hn, hq, hc, hs⟩
theorem w_static {idx : Nat} {q : gMeth × Nat × Nat × Nat × Nat} (as r : List gv) (hi : gLk pc y.T = some (.invokestatic idx, 3)) (hq : gLk idx (gSts y.O) = some q) (he : st = as.reverse ++ r) (hn : as.length = q.2.1) (hr : r.length ≤ 8) (hc : cc + q.1.mc ≤ y.mc) (hs : ss + q.1.ms ≤ y.ms) (k : C q.1 as h (fun v h' => gWP C y Q (pc + 3) ls (v.toList ++ r) h' (cc + q.1.mc) (ss + q.1.ms))) : gWP C y Q pc ls st h cc ss := gWP.step hi (Or.inl rfl) (Or.inl ⟨q, as, r, hq, he, hn, hr, hc, hs, k⟩)
theorem w_virtual {idx : Nat} {q : Nat × MethodName × Nat × List (Nat × gMeth × Nat × String × Nat × Nat × Nat × Nat)} {z : gMeth × Nat × String × Nat × Nat × Nat × Nat} {a tg n : Nat} (as r : List gv) (hi : gLk pc y.T = some (.invokevirtual idx, 3)) (hq : gLk idx (gVts y.O) = some q) (he : st = as.reverse ++ .inr (some a) :: r) (hn : as.length = q.1) (hr : r.length ≤ 8) (ht : gtag h a = some (tg, n)) (hz : gLk tg q.2.2.2 = some z) (hc : cc + z.1.mc ≤ y.mc) (hs : ss + z.1.ms ≤ y.ms) (k : C z.1 (.inr (some a) :: as) h (fun v h' => gWP C y Q (pc + 3) ls (v.toList ++ r) h' (cc + z.1.mc) (ss + z.1.ms))) : gWP C y Q pc ls st h cc ss := gWP.step hi (Or.inl rfl) ⟨q, a, as, r, tg, n, z, hq, he, hn, hr, ht, hz, hc, hs, k⟩
theorem w_getI {idx a tg n k : Nat} (hi : gLk pc y.T = some (.getfield idx, 3)) (ht : gtag h a = some (tg, n)) (hf : gFl y.O idx tg = some k) (hr : gisR (gTy tg k) = false) (kk : gWP C y Q (pc + 3) ls (.inl (gint h a k) :: st) h cc ss) : gWP C y Q pc ls (.inr (some a) :: st) h cc ss := gWP.step hi (Or.inl rfl) ⟨a, st, tg, n, k, rfl, ht, hf, by unfold gval; rw [if_neg (by rw [hr]; decide)]; exact kk⟩
theorem w_getR {idx a tg n k : Nat} (hi : gLk pc y.T = some (.getfield idx, 3)) (ht : gtag h a = some (tg, n)) (hf : gFl y.O idx tg = some k) (hr : gisR (gTy tg k) = true) (kk : gWP C y Q (pc + 3) ls (.inr (gref h a k) :: st) h cc ss) : gWP C y Q pc ls (.inr (some a) :: st) h cc ss := gWP.step hi (Or.inl rfl) ⟨a, st, tg, n, k, rfl, ht, hf, by unfold gval; rw [if_pos hr]; exact kk⟩
theorem w_putI {idx a tg n k : Nat} {x : Int32} (hi : gLk pc y.T = some (.putfield idx, 3)) (ht : gtag h a = some (tg, n)) (hf : gFl y.O idx tg = some k) (hfin : gFin y tg k = true) (hr : gisR (gTy tg k) = false) (hn : gNar (gTy tg k) x) (kk : gWP C y Q (pc + 3) ls st (gsetI h a k x) cc ss) : gWP C y Q pc ls (.inl x :: .inr (some a) :: st) h cc ss := gWP.step hi (Or.inl rfl) ⟨.inl x, a, st, tg, n, k, rfl, ht, hf, hfin, (fun q => by rw [hr] at q; cases q), fun _ => ⟨x, rfl, hn, kk⟩⟩
theorem w_putR {idx a tg n k : Nat} {o : Option Nat} (hi : gLk pc y.T = some (.putfield idx, 3)) (ht : gtag h a = some (tg, n)) (hf : gFl y.O idx tg = some k) (hfin : gFin y tg k = true) (hr : gisR (gTy tg k) = true) (kk : gWP C y Q (pc + 3) ls st (gsetR h a k o) cc ss) : gWP C y Q pc ls (.inr o :: .inr (some a) :: st) h cc ss := gWP.step hi (Or.inl rfl) ⟨.inr o, a, st, tg, n, k, rfl, ht, hf, hfin, fun _ => ⟨o, rfl, kk⟩, (fun q => by rw [hr] at q; cases q)⟩
theorem w_len {a tg n : Nat} (hi : gLk pc y.T = some (.arraylength, 1)) (ht : gtag h a = some (tg, n)) (h1 : 20 ≤ tg) (h2 : tg ≤ 24) (k : gWP C y Q (pc + 1) ls (.inl (Int32.ofNat n) :: st) h cc ss) : gWP C y Q pc ls (.inr (some a) :: st) h cc ss := gWP.step hi (Or.inl rfl) ⟨a, st, tg, n, rfl, ht, h1, h2, k⟩
theorem w_iald {a tg n : Nat} {j : Int32} (hi : gLk pc y.T = some (.iaload, 1)) (ht : gtag h a = some (tg, n)) (h1 : tg = 20 ∨ tg = 24) (hin : vp_in j n) (k : gWP C y Q (pc + 1) ls (.inl (gint h a j.toNatClampNeg) :: st) h cc ss) : gWP C y Q pc ls (.inl j :: .inr (some a) :: st) h cc ss := gWP.step hi (Or.inl rfl) ⟨a, j, st, tg, n, rfl, ht, h1, hin, k⟩
theorem w_zald {a n : Nat} {j : Int32} (hi : gLk pc y.T = some (.baload, 1)) (ht : gtag h a = some (21, n)) (hin : vp_in j n) (k : gWP C y Q (pc + 1) ls (.inl (gint h a j.toNatClampNeg) :: st) h cc ss) : gWP C y Q pc ls (.inl j :: .inr (some a) :: st) h cc ss := gWP.step hi (Or.inl rfl) ⟨a, j, st, n, rfl, ht, hin, k⟩
theorem w_aald {a tg n : Nat} {j : Int32} (hi : gLk pc y.T = some (.aaload, 1)) (ht : gtag h a = some (tg, n)) (h1 : tg = 22 ∨ tg = 23) (hin : vp_in j n) (k : gWP C y Q (pc + 1) ls (.inr (gref h a j.toNatClampNeg) :: st) h cc ss) : gWP C y Q pc ls (.inl j :: .inr (some a) :: st) h cc ss := gWP.step hi (Or.inl rfl) ⟨a, j, st, tg, n, rfl, ht, h1, hin, k⟩
theorem w_iast {a n : Nat} {j x : Int32} (hi : gLk pc y.T = some (.iastore, 1)) (ht : gtag h a = some (20, n)) (hin : vp_in j n) (k : gWP C y Q (pc + 1) ls st (gsetI h a j.toNatClampNeg x) cc ss) : gWP C y Q pc ls (.inl x :: .inl j :: .inr (some a) :: st) h cc ss := gWP.step hi (Or.inl rfl) ⟨a, j, x, st, n, rfl, ht, hin, k⟩
theorem w_zast {a n : Nat} {j x : Int32} (hi : gLk pc y.T = some (.bastore, 1)) (ht : gtag h a = some (21, n)) (hin : vp_in j n) (hx : gNar .boolean x) (k : gWP C y Q (pc + 1) ls st (gsetI h a j.toNatClampNeg x) cc ss) : gWP C y Q pc ls (.inl x :: .inl j :: .inr (some a) :: st) h cc ss := gWP.step hi (Or.inl rfl) ⟨a, j, x, st, n, rfl, ht, hin, hx, k⟩
end GR
/-! following a function that answers an Option -/
theorem g_guard {α : Type} {b : Bool} {A : Option α} {r : α} (h : (bif b then A else none) = some r) : b = true ∧ A = some r := by
  cases b with
  | true => exact ⟨rfl, h⟩
  | false => cases h
theorem g_bind {α β : Type} {A : Option α} {f : α → Option β} {r : β} (h : A.bind f = some r) : ∃ q, A = some q ∧ f q = some r := by
  cases A with
  | none => cases h
  | some q => exact ⟨q, rfl, h⟩
def inB (j : Int32) (n : Nat) : Bool := decide (0 ≤ j.toInt) && decide (j.toInt < (n : Int))
theorem inB_in {j : Int32} {n : Nat} (h : inB j n = true) : vp_in j n := by
  simp only [inB, Bool.and_eq_true, decide_eq_true_eq] at h
  exact vp_in_iff.mpr h
def isZ (x : Int32) : Bool := decide (x = 0) || decide (x = 1)
theorem isZ_nar {x : Int32} (h : isZ x = true) : gNar .boolean x := by
  simp only [isZ, Bool.or_eq_true, decide_eq_true_eq] at h
  rcases h with rfl | rfl <;> exact ⟨by decide, by decide⟩
theorem isZ_ret {x : Int32} (h : isZ x = true) : gNarR (some .boolean) x := ⟨.boolean, rfl, (isZ_nar h).1, rfl⟩
theorem int_ret (x : Int32) : gNarR (some .int) x := ⟨.int, rfl, rfl, rfl⟩
abbrev ix (j : Int32) : Nat := j.toNatClampNeg
