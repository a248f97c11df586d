/-! ===== the abstract machine: values, heap, one instruction, a method, by weakest preconditions ===== -/
abbrev gv : Type := Int32 ⊕ Option Nat
def gvV : gv → Value
  | .inl x => .int x
  | .inr o => va_rf o
abbrev gHp : Type := (Nat → Option (Nat × Nat)) × (Nat → Nat → Int32) × (Nat → Nat → Option Nat)
def gtag (h : gHp) (a : Nat) : Option (Nat × Nat) := h.1 a
def gint (h : gHp) (a k : Nat) : Int32 := h.2.1 a k
def gref (h : gHp) (a k : Nat) : Option Nat := h.2.2 a k
def gsetI (h : gHp) (a k : Nat) (x : Int32) : gHp := (h.1, fun b j => if b = a ∧ j = k then x else h.2.1 b j, h.2.2)
def gsetR (h : gHp) (a k : Nat) (o : Option Nat) : gHp := (h.1, h.2.1, fun b j => if b = a ∧ j = k then o else h.2.2 b j)
def gnew (h : gHp) (a tg n : Nat) : gHp := (fun b => if b = a then some (tg, n) else h.1 b, fun b j => if b = a then 0 else h.2.1 b j, fun b j => if b = a then none else h.2.2 b j)
def gcpy (h : gHp) (s d sp dp n : Nat) : gHp := (h.1, fun b j => if b = d ∧ dp ≤ j ∧ j < dp + n then h.2.1 s (sp + (j - dp)) else h.2.1 b j, h.2.2)
/-- new T[n][k]: the outer row at q, the inner ones at q + 1 .. q + n -/
def gnew2 (h : gHp) (q n k : Nat) : gHp := (fun b => if b = q then some (23, n) else if q < b ∧ b ≤ q + n then some (20, k) else h.1 b, fun b j => if q ≤ b ∧ b ≤ q + n then 0 else h.2.1 b j, fun b j => if b = q then (if j < n then some (q + 1 + j) else none) else if q < b ∧ b ≤ q + n then none else h.2.2 b j)
theorem gtag_setI (h : gHp) (a k : Nat) (x : Int32) (b : Nat) : gtag (gsetI h a k x) b = gtag h b := rfl
theorem gtag_setR (h : gHp) (a k : Nat) (x : Option Nat) (b : Nat) : gtag (gsetR h a k x) b = gtag h b := rfl
theorem gref_setI (h : gHp) (a k : Nat) (x : Int32) (b j : Nat) : gref (gsetI h a k x) b j = gref h b j := rfl
theorem gint_setR (h : gHp) (a k : Nat) (x : Option Nat) (b j : Nat) : gint (gsetR h a k x) b j = gint h b j := rfl
theorem gint_setI (h : gHp) (a k : Nat) (x : Int32) (b j : Nat) : gint (gsetI h a k x) b j = if b = a ∧ j = k then x else gint h b j := rfl
theorem gref_setR (h : gHp) (a k : Nat) (x : Option Nat) (b j : Nat) : gref (gsetR h a k x) b j = if b = a ∧ j = k then x else gref h b j := rfl
theorem gtag_new (h : gHp) (a tg n b : Nat) : gtag (gnew h a tg n) b = if b = a then some (tg, n) else gtag h b := rfl
theorem gint_new (h : gHp) (a tg n b j : Nat) : gint (gnew h a tg n) b j = if b = a then 0 else gint h b j := rfl
theorem gref_new (h : gHp) (a tg n b j : Nat) : gref (gnew h a tg n) b j = if b = a then none else gref h b j := rfl
theorem gtag_cpy (h : gHp) (s d sp dp n b : Nat) : gtag (gcpy h s d sp dp n) b = gtag h b := rfl
theorem gref_cpy (h : gHp) (s d sp dp n b j : Nat) : gref (gcpy h s d sp dp n) b j = gref h b j := rfl
theorem gint_cpy (h : gHp) (s d sp dp n b j : Nat) : gint (gcpy h s d sp dp n) b j = if b = d ∧ dp ≤ j ∧ j < dp + n then gint h s (sp + (j - dp)) else gint h b j := rfl
def gisR : FieldType → Bool
  | .object _ => true
  | .array _ => true
  | _ => false
/-- what stands in the field k of an object of the kind tg -/
def gval (h : gHp) (tg a k : Nat) : gv := if gisR (gTy tg k) = true then .inr (gref h a k) else .inl (gint h a k)
/-- a small type keeps this number as it is -/
def gNar (ty : FieldType) (x : Int32) : Prop := narrow ty (.int x) = .int x ∧ fits ty (.int x) = true
def gCmp (c : ClassFile.Cond) (x y : Int32) : Prop := match c with
  | .eq => x = y
  | .ne => ¬ x = y
  | .lt => x < y
  | .ge => y ≤ x
  | .gt => y < x
  | .le => x ≤ y
/-- a final field is written by its class's constructor alone -/
def gFin (y : gMeth) (tg k : Nat) : Bool := match gC[tg]? with
  | none => false
  | some r => !(r.2.1 k).2.2.2 || (decide (y.N.name = "<init>") && decide ((r.2.1 k).1 = gCn y.O))
def gCk (o idx : Nat) : Option String := (gLk idx (gKs o)).map (fun q => q.1)
def gAty : ArrayType → Option Nat
  | .int => some 20
  | .boolean => some 21
  | _ => none
def gcn (tg : Nat) : String := (gC.getD tg ("", gT0, 0)).1
def gIo (tg : Nat) (C : String) : Option Int32 := bif gCast.any (fun q => decide (q = (gcn tg, C))) then some 1 else bif gNot.any (fun q => decide (q = (gcn tg, C))) then some 0 else none
def gIsObj (o idx : Nat) : Bool := (gObjs.any (fun q => Nat.beq q.1 o && Nat.beq q.2.1 idx))
def gMth (o idx : Nat) : Option Bool := (gMths.find? (fun q => Nat.beq q.1 o && Nat.beq q.2.1 idx)).map (fun q => q.2.2.1)
def gIsCpy (o idx : Nat) : Bool := (gCpys.any (fun q => Nat.beq q.1 o && Nat.beq q.2.1 idx))
def gNarR (r : Option FieldType) (x : Int32) : Prop := ∃ ty, r = some ty ∧ narrow ty (.int x) = .int x ∧ gisR ty = false
def gRefR (r : Option FieldType) : Prop := ∃ ty, r = some ty ∧ gisR ty = true
def gDo (C : gMeth → List gv → gHp → (Option gv → gHp → Prop) → Prop) (y : gMeth) (Q : Option gv → gHp → Prop) (P : Nat → List (Option gv) → List gv → gHp → Nat → Nat → Prop) (i : Instr) (pc : Nat) (ls : List (Option gv)) (st : List gv) (h : gHp) (cc ss : Nat) : Prop := match i with
  | .aconst_null => P (pc + 1) ls (.inr none :: st) h cc ss
  | .iconst n => P (pc + 1) ls (.inl (Int32.ofInt n) :: st) h cc ss
  | .bipush n => P (pc + 2) ls (.inl (Int8.ofInt n).toInt32 :: st) h cc ss
  | .sipush n => P (pc + 3) ls (.inl (Int16.ofInt n).toInt32 :: st) h cc ss
  | .ldc idx => ∃ v, gCst y.O idx = some v ∧ P (pc + 2) ls (.inl v :: st) h cc ss
  | .iload_n k => ∃ x, ls[k.val]? = some (some (.inl x)) ∧ P (pc + 1) ls (.inl x :: st) h cc ss
  | .iload k => ∃ x, ls[k]? = some (some (.inl x)) ∧ P (pc + 2) ls (.inl x :: st) h cc ss
  | .aload_n k => ∃ o, ls[k.val]? = some (some (.inr o)) ∧ P (pc + 1) ls (.inr o :: st) h cc ss
  | .aload k => ∃ o, ls[k]? = some (some (.inr o)) ∧ P (pc + 2) ls (.inr o :: st) h cc ss
  | .istore_n k => ∃ x r, st = .inl x :: r ∧ k.val < ls.length ∧ P (pc + 1) (ls.set k.val (some (.inl x))) r h cc ss
  | .istore k => ∃ x r, st = .inl x :: r ∧ k < ls.length ∧ P (pc + 2) (ls.set k (some (.inl x))) r h cc ss
  | .astore_n k => ∃ o r, st = .inr o :: r ∧ k.val < ls.length ∧ P (pc + 1) (ls.set k.val (some (.inr o))) r h cc ss
  | .astore k => ∃ o r, st = .inr o :: r ∧ k < ls.length ∧ P (pc + 2) (ls.set k (some (.inr o))) r h cc ss
  | .iinc k n => ∃ x, ls[k]? = some (some (.inl x)) ∧ P (pc + 3) (ls.set k (some (.inl (x + Int32.ofInt n)))) st h cc ss
  | .iadd => ∃ a b r, st = .inl b :: .inl a :: r ∧ P (pc + 1) ls (.inl (a + b) :: r) h cc ss
  | .isub => ∃ a b r, st = .inl b :: .inl a :: r ∧ P (pc + 1) ls (.inl (a - b) :: r) h cc ss
  | .imul => ∃ a b r, st = .inl b :: .inl a :: r ∧ P (pc + 1) ls (.inl (a * b) :: r) h cc ss
  | .iand => ∃ a b r, st = .inl b :: .inl a :: r ∧ P (pc + 1) ls (.inl (a &&& b) :: r) h cc ss
  | .ior => ∃ a b r, st = .inl b :: .inl a :: r ∧ P (pc + 1) ls (.inl (a ||| b) :: r) h cc ss
  | .ixor => ∃ a b r, st = .inl b :: .inl a :: r ∧ P (pc + 1) ls (.inl (a ^^^ b) :: r) h cc ss
  | .ishl => ∃ a b r, st = .inl b :: .inl a :: r ∧ P (pc + 1) ls (.inl (a <<< (b &&& 31)) :: r) h cc ss
  | .ishr => ∃ a b r, st = .inl b :: .inl a :: r ∧ P (pc + 1) ls (.inl (a >>> (b &&& 31)) :: r) h cc ss
  | .idiv => ∃ a b r, st = .inl b :: .inl a :: r ∧ ¬ b = 0 ∧ P (pc + 1) ls (.inl (a / b) :: r) h cc ss
  | .irem => ∃ a b r, st = .inl b :: .inl a :: r ∧ ¬ b = 0 ∧ P (pc + 1) ls (.inl (a - a / b * b) :: r) h cc ss
  | .dup => ∃ v r, st = v :: r ∧ P (pc + 1) ls (v :: v :: r) h cc ss
  | .dup2 => ∃ v w r, st = v :: w :: r ∧ P (pc + 1) ls (v :: w :: v :: w :: r) h cc ss
  | .pop => ∃ v r, st = v :: r ∧ P (pc + 1) ls r h cc ss
  | .ifCond c off => ∃ (x : Int32) (r : List gv) (t : Nat), st = .inl x :: r ∧ (pc : Int) + off = (t : Int) ∧ (gCmp c x 0 → P t ls r h cc ss) ∧ (¬ gCmp c x 0 → P (pc + 3) ls r h cc ss)
  | .if_icmp c off => ∃ (a b : Int32) (r : List gv) (t : Nat), st = .inl b :: .inl a :: r ∧ (pc : Int) + off = (t : Int) ∧ (gCmp c a b → P t ls r h cc ss) ∧ (¬ gCmp c a b → P (pc + 3) ls r h cc ss)
  | .if_acmp .eq off => ∃ (a b : Option Nat) (r : List gv) (t : Nat), st = .inr b :: .inr a :: r ∧ (pc : Int) + off = (t : Int) ∧ (a = b → P t ls r h cc ss) ∧ (¬ a = b → P (pc + 3) ls r h cc ss)
  | .if_acmp .ne off => ∃ (a b : Option Nat) (r : List gv) (t : Nat), st = .inr b :: .inr a :: r ∧ (pc : Int) + off = (t : Int) ∧ (¬ a = b → P t ls r h cc ss) ∧ (a = b → P (pc + 3) ls r h cc ss)
  | .ifnull off => ∃ (o : Option Nat) (r : List gv) (t : Nat), st = .inr o :: r ∧ (pc : Int) + off = (t : Int) ∧ (o = none → P t ls r h cc ss) ∧ (¬ o = none → P (pc + 3) ls r h cc ss)
  | .ifnonnull off => ∃ (o : Option Nat) (r : List gv) (t : Nat), st = .inr o :: r ∧ (pc : Int) + off = (t : Int) ∧ (¬ o = none → P t ls r h cc ss) ∧ (o = none → P (pc + 3) ls r h cc ss)
  | .goto off => ∃ t : Nat, (pc : Int) + off = (t : Int) ∧ P t ls st h cc ss
  | .tableswitch dflt lo hi offs => ∃ (x : Int32) (r : List gv), st = .inl x :: r ∧ ((x.toInt < lo ∨ hi < x.toInt) → ∃ t : Nat, (pc : Int) + dflt = (t : Int) ∧ P t ls r h cc ss) ∧ (¬ x.toInt < lo → ¬ hi < x.toInt → ∃ (off : Int) (t : Nat), offs[(x.toInt - lo).toNat]? = some off ∧ (pc : Int) + off = (t : Int) ∧ P t ls r h cc ss)
  | .lookupswitch dflt ps => ∃ (x : Int32) (r : List gv) (off : Int) (t : Nat), st = .inl x :: r ∧ (ps.toList.zip (ps.toList.drop 1)).all (fun (a, next) => a.1 < next.1) = true ∧ Op.lookupswitch.offset ps.toList dflt x.toInt = off ∧ (pc : Int) + off = (t : Int) ∧ P t ls r h cc ss
  | .getfield idx => ∃ a r tg n k, st = .inr (some a) :: r ∧ gtag h a = some (tg, n) ∧ gFl y.O idx tg = some k ∧ P (pc + 3) ls (gval h tg a k :: r) h cc ss
  | .putfield idx => ∃ v a r tg n k, st = v :: .inr (some a) :: r ∧ gtag h a = some (tg, n) ∧ gFl y.O idx tg = some k ∧ gFin y tg k = true ∧ (gisR (gTy tg k) = true → ∃ o, v = .inr o ∧ P (pc + 3) ls r (gsetR h a k o) cc ss) ∧ (gisR (gTy tg k) = false → ∃ x, v = .inl x ∧ gNar (gTy tg k) x ∧ P (pc + 3) ls r (gsetI h a k x) cc ss)
  | .arraylength => ∃ a r tg n, st = .inr (some a) :: r ∧ gtag h a = some (tg, n) ∧ 20 ≤ tg ∧ tg ≤ 24 ∧ P (pc + 1) ls (.inl (Int32.ofNat n) :: r) h cc ss
  | .iaload => ∃ a j r tg n, st = .inl j :: .inr (some a) :: r ∧ gtag h a = some (tg, n) ∧ (tg = 20 ∨ tg = 24) ∧ vp_in j n ∧ P (pc + 1) ls (.inl (gint h a j.toNatClampNeg) :: r) h cc ss
  | .baload => ∃ a j r n, st = .inl j :: .inr (some a) :: r ∧ gtag h a = some (21, n) ∧ vp_in j n ∧ P (pc + 1) ls (.inl (gint h a j.toNatClampNeg) :: r) h cc ss
  | .aaload => ∃ a j r tg n, st = .inl j :: .inr (some a) :: r ∧ gtag h a = some (tg, n) ∧ (tg = 22 ∨ tg = 23) ∧ vp_in j n ∧ P (pc + 1) ls (.inr (gref h a j.toNatClampNeg) :: r) h cc ss
  | .iastore => ∃ a j x r n, st = .inl x :: .inl j :: .inr (some a) :: r ∧ gtag h a = some (20, n) ∧ vp_in j n ∧ P (pc + 1) ls r (gsetI h a j.toNatClampNeg x) cc ss
  | .bastore => ∃ a j x r n, st = .inl x :: .inl j :: .inr (some a) :: r ∧ gtag h a = some (21, n) ∧ vp_in j n ∧ gNar .boolean x ∧ P (pc + 1) ls r (gsetI h a j.toNatClampNeg x) cc ss
  | .aastore => ∃ a j o r n, st = .inr o :: .inl j :: .inr (some a) :: r ∧ gtag h a = some (22, n) ∧ vp_in j n ∧ (∀ b, o = some b → ∃ tg m, gtag h b = some (tg, m) ∧ (tg = 4 ∨ gIo tg "GlkPanes$Pane" = some 1)) ∧ P (pc + 1) ls r (gsetR h a j.toNatClampNeg o) cc ss
  | .newarray ty => ∃ j r tg, st = .inl j :: r ∧ ¬ j < 0 ∧ j.toNatClampNeg ≤ 100000 ∧ gAty ty = some tg ∧ cc + 1 ≤ y.mc ∧ ss + j.toNatClampNeg ≤ y.ms ∧ ∀ a, gtag h a = none → P (pc + 2) ls (.inr (some a) :: r) (gnew h a tg j.toNatClampNeg) (cc + 1) (ss + j.toNatClampNeg)
  | .anewarray idx => ∃ j r, st = .inl j :: r ∧ ¬ j < 0 ∧ j.toNatClampNeg ≤ 100000 ∧ gCk y.O idx = some "GlkPanes$Pane" ∧ cc + 1 ≤ y.mc ∧ ss + j.toNatClampNeg ≤ y.ms ∧ ∀ a, gtag h a = none → P (pc + 3) ls (.inr (some a) :: r) (gnew h a 22 j.toNatClampNeg) (cc + 1) (ss + j.toNatClampNeg)
  | .multianewarray idx d => ∃ j k r, st = .inl k :: .inl j :: r ∧ d = 2 ∧ ¬ j < 0 ∧ ¬ k < 0 ∧ j.toNatClampNeg ≤ 1000 ∧ k.toNatClampNeg ≤ 1000 ∧ gCk y.O idx = some "[[I" ∧ cc + (1 + j.toNatClampNeg) ≤ y.mc ∧ ss + (j.toNatClampNeg + j.toNatClampNeg * k.toNatClampNeg) ≤ y.ms ∧ ∀ a, (∀ i, i ≤ j.toNatClampNeg → gtag h (a + i) = none) → P (pc + 4) ls (.inr (some a) :: r) (gnew2 h a j.toNatClampNeg k.toNatClampNeg) (cc + 1 + j.toNatClampNeg) (ss + j.toNatClampNeg + j.toNatClampNeg * k.toNatClampNeg)
  | .new idx => ∃ C tg r, gCk y.O idx = some C ∧ gTag C = some tg ∧ gC[tg]? = some r ∧ cc + 1 ≤ y.mc ∧ ss + r.2.2 ≤ y.ms ∧ ∀ a, gtag h a = none → P (pc + 3) ls (.inr (some a) :: st) (gnew h a tg r.2.2) (cc + 1) (ss + r.2.2)
  | .checkcast idx => ∃ C o r, gCk y.O idx = some C ∧ st = .inr o :: r ∧ (∀ b, o = some b → ∃ tg n, gtag h b = some (tg, n) ∧ gIo tg C = some 1) ∧ P (pc + 3) ls (.inr o :: r) h cc ss
  | .instanceof idx => ∃ C o r, gCk y.O idx = some C ∧ st = .inr o :: r ∧ (o = none → P (pc + 3) ls (.inl 0 :: r) h cc ss) ∧ (∀ b, o = some b → ∃ tg n v, gtag h b = some (tg, n) ∧ gIo tg C = some v ∧ P (pc + 3) ls (.inl v :: r) h cc ss)
  | .invokestatic idx => (∃ q As r, gLk idx (gSts y.O) = some q ∧ st = As.reverse ++ r ∧ As.length = q.2.1 ∧ r.length ≤ 8 ∧ cc + q.1.mc ≤ y.mc ∧ ss + q.1.ms ≤ y.ms ∧ C q.1 As h (fun v h' => P (pc + 3) ls (v.toList ++ r) h' (cc + q.1.mc) (ss + q.1.ms))) ∨
      (∃ a b sp dp n r n0 n1, gIsCpy y.O idx = true ∧ st = .inl n :: .inl dp :: .inr (some b) :: .inl sp :: .inr (some a) :: r ∧ r.length ≤ 8 ∧ gtag h a = some (20, n0) ∧ gtag h b = some (20, n1) ∧ ¬ sp < 0 ∧ ¬ dp < 0 ∧ ¬ n < 0 ∧ sp.toNatClampNeg + n.toNatClampNeg ≤ n0 ∧ dp.toNatClampNeg + n.toNatClampNeg ≤ n1 ∧ P (pc + 3) ls r (gcpy h a b sp.toNatClampNeg dp.toNatClampNeg n.toNatClampNeg) cc ss) ∨
      (∃ k a b r, gMth y.O idx = some k ∧ st = .inl b :: .inl a :: r ∧ r.length ≤ 8 ∧ cc ≤ y.mc ∧ ss ≤ y.ms ∧ P (pc + 3) ls (.inl (bif k then (if a < b then b else a) else (if b < a then b else a)) :: r) h cc ss)
  | .invokespecial idx => (∃ q a As r, gLk idx (gSps y.O) = some q ∧ st = As.reverse ++ .inr (some a) :: r ∧ As.length = q.2.1 ∧ r.length ≤ 8 ∧ cc + q.1.mc ≤ y.mc ∧ ss + q.1.ms ≤ y.ms ∧ C q.1 (.inr (some a) :: As) h (fun v h' => P (pc + 3) ls (v.toList ++ r) h' (cc + q.1.mc) (ss + q.1.ms))) ∨
      (∃ a r, gIsObj y.O idx = true ∧ st = .inr (some a) :: r ∧ r.length ≤ 8 ∧ P (pc + 3) ls r h cc ss)
  | .invokevirtual idx => ∃ q a As r tg n z, gLk idx (gVts y.O) = some q ∧ st = As.reverse ++ .inr (some a) :: r ∧ As.length = q.1 ∧ r.length ≤ 8 ∧ gtag h a = some (tg, n) ∧ gLk tg q.2.2.2 = some z ∧ cc + z.1.mc ≤ y.mc ∧ ss + z.1.ms ≤ y.ms ∧ C z.1 (.inr (some a) :: As) h (fun v h' => P (pc + 3) ls (v.toList ++ r) h' (cc + z.1.mc) (ss + z.1.ms))
  | .ireturn => ∃ x, st = [.inl x] ∧ gNarR y.R x ∧ Q (some (.inl x)) h ∧ cc ≤ y.mc ∧ ss ≤ y.ms
  | .areturn => ∃ o, st = [.inr o] ∧ gRefR y.R ∧ Q (some (.inr o)) h ∧ cc ≤ y.mc ∧ ss ≤ y.ms
  | .return_ => st = [] ∧ y.R = none ∧ Q none h ∧ cc ≤ y.mc ∧ ss ≤ y.ms
  | _ => False
/-- how long an instruction is (0: a switch) -/
def gLn : Instr → Nat
  | .bipush _ => 2
  | .ldc _ => 2
  | .iload _ => 2
  | .aload _ => 2
  | .istore _ => 2
  | .astore _ => 2
  | .newarray _ => 2
  | .sipush _ => 3
  | .iinc _ _ => 3
  | .ifCond _ _ => 3
  | .if_icmp _ _ => 3
  | .if_acmp _ _ => 3
  | .ifnull _ => 3
  | .ifnonnull _ => 3
  | .goto _ => 3
  | .getfield _ => 3
  | .putfield _ => 3
  | .invokestatic _ => 3
  | .invokespecial _ => 3
  | .invokevirtual _ => 3
  | .new _ => 3
  | .anewarray _ => 3
  | .checkcast _ => 3
  | .instanceof _ => 3
  | .multianewarray _ _ => 4
  | .tableswitch _ _ _ _ => 0
  | .lookupswitch _ _ => 0
  | _ => 1
/-- from here the method ends, with Q (the least predicate that one step keeps) -/
def gWP (C : gMeth → List gv → gHp → (Option gv → gHp → Prop) → Prop) (y : gMeth) (Q : Option gv → gHp → Prop) (pc : Nat) (ls : List (Option gv)) (st : List gv) (h : gHp) (cc ss : Nat) : Prop :=
  ∀ P : Nat → List (Option gv) → List gv → gHp → Nat → Nat → Prop,
    (∀ (P' : Nat → List (Option gv) → List gv → gHp → Nat → Nat → Prop), (∀ pc ls st h cc ss, P' pc ls st h cc ss → P pc ls st h cc ss) →
      ∀ pc ls st h cc ss, (∃ i len, gLk pc y.T = some (i, len) ∧ (len = gLn i ∨ gLn i = 0) ∧ gDo C y Q P' i pc ls st h cc ss) → P pc ls st h cc ss) → P pc ls st h cc ss
theorem gWP.step {C : gMeth → List gv → gHp → (Option gv → gHp → Prop) → Prop} {y : gMeth} {Q : Option gv → gHp → Prop} {pc : Nat} {ls : List (Option gv)} {st : List gv} {h : gHp} {cc ss : Nat} {i : Instr} {len : Nat} (hi : gLk pc y.T = some (i, len)) (hl : len = gLn i ∨ gLn i = 0) (hd : gDo C y Q (gWP C y Q) i pc ls st h cc ss) : gWP C y Q pc ls st h cc ss := by
  intro P hP
  exact hP (gWP C y Q) (fun _ _ _ _ _ _ w => w P hP) pc ls st h cc ss ⟨i, len, hi, hl, hd⟩
def gEntry (y : gMeth) (args : List gv) : List (Option gv) := args.map some ++ List.replicate (y.L - args.length) none
/-- the call of a method, with d calls below it at most -/
def gCall : Nat → gMeth → List gv → gHp → (Option gv → gHp → Prop) → Prop
  | 0, _, _, _, _ => False
  | d + 1, y, args, h, Q => args.length ≤ y.L ∧ gWP (gCall d) y Q 0 (gEntry y args) [] h 0 0
