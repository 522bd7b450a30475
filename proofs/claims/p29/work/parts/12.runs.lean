/-! one equation an instruction -/
abbrev I (x : Int) : AV := .inl x
abbrev Rf (k : Nat) : AV := .inr k
def pushR (v : Option AV) (st : List AV) : List AV := match v with
  | some w => w :: st
  | none => st
theorem pushR_eq (v : Option AV) (st : List AV) : v.toList ++ st = pushR v st := by cases v <;> rfl
theorem pushR_some (w : AV) (st : List AV) : pushR (some w) st = w :: st := rfl
theorem pushR_none (st : List AV) : pushR none st = st := rfl
theorem aBind_some (v : Option AV) (h : AH) (K : Option AV → AH → Option AR) : aBind (some (v, h)) K = K v h := rfl
theorem bck_pos {α : Type} {lo hi x : Int} {a : Option α} (h : lo ≤ x ∧ x ≤ hi) : bck lo hi x a = a := if_pos h
theorem chk_pos {α : Type} {x : Int} {a : Option α} (h : -2147483648 ≤ x ∧ x ≤ 2147483647) : chk x a = a := if_pos h
def RunO (sc : Nat × (Nat → Int)) (mi : Nat) (lv : LV) (h : AH) (o : Option AT) : Option AR → Prop := fun r => match o with
  | none => r = none
  | some (.inl q) => r = Run sc mi q.1 q.2.1 q.2.2.1 q.2.2.2
  | some (.inr (.inl q)) => r = aBind (Run sc q.1 0 q.2.1 [] h) (fun v h' => Run sc mi q.2.2.1 lv (pushR v q.2.2.2) h')
  | some (.inr (.inr v)) => r = some (v, h)
theorem Run_O {sc : Nat × (Nat → Int)} {mi pc : Nat} {lv : LV} {st : List AV} {h : AH} {o : Option AT} (e : aStep sc mi pc lv st h = o) {r : Option AR} (hr : RunO sc mi lv h o r) : Run sc mi pc lv st h = r := by
  cases o with
  | none => exact (Run_none e).trans (Eq.symm hr)
  | some t =>
    rcases t with q | q | v
    · exact (Run_next e).trans (Eq.symm hr)
    · have e1 := Run_call e
      simp only [pushR_eq] at e1
      exact e1.trans (Eq.symm hr)
    · exact (Run_ret e).trans (Eq.symm hr)
theorem RunO_bck {sc : Nat × (Nat → Int)} {mi : Nat} {lv : LV} {h : AH} {lo hi x : Int} {o : Option AT} {r : Option AR} (hr : RunO sc mi lv h o r) : RunO sc mi lv h (bck lo hi x o) (bck lo hi x r) := by
  unfold bck
  by_cases c : lo ≤ x ∧ x ≤ hi
  · rw [if_pos c, if_pos c]; exact hr
  · rw [if_neg c, if_neg c]; exact rfl
theorem RunO_ite {sc : Nat × (Nat → Int)} {mi : Nat} {lv : LV} {h : AH} {c : Prop} [Decidable c] {o1 o2 : Option AT} {r1 r2 : Option AR} (h1 : RunO sc mi lv h o1 r1) (h2 : RunO sc mi lv h o2 r2) : RunO sc mi lv h (if c then o1 else o2) (if c then r1 else r2) := by
  by_cases q : c
  · rw [if_pos q, if_pos q]; exact h1
  · rw [if_neg q, if_neg q]; exact h2
/-- kind and length of a cell -/
def kOf (cs : List (Nat × Nat)) (a : Nat) : Option (Nat × Nat) := match a with
  | 0 => none
  | b + 1 => cs[b]?
theorem isA_of {α : Type} {h : AH} {a k n : Nat} {K : Nat → Option α} (e : kOf h.1 a = some (k, n)) : isA h a k K = K n := by
  cases a with
  | zero => cases e
  | succ b =>
    unfold isA
    (try dsimp only)
    rw [show h.1[b]? = some (k, n) from e]
    exact if_pos rfl
theorem jmp_of {α : Type} {pc t : Nat} {off : Int} {K : Nat → Option α} (e : (pc : Int) + off = (t : Int)) : jmp pc off K = K t := by
  unfold jmp
  rw [if_pos (by omega), e, Int.toNat_natCast]
theorem bck_congr {α : Type} {lo hi x : Int} {a b : Option α} (h : a = b) : bck lo hi x a = bck lo hi x b := by rw [h]
theorem chk_congr {α : Type} {x : Int} {a b : Option α} (h : a = b) : chk x a = chk x b := by rw [h]
theorem ite_c2 {α : Type} {c : Prop} [Decidable c] {a a' b b' : α} (h1 : a = a') (h2 : b = b') : (if c then a else b) = (if c then a' else b') := by rw [h1, h2]
section ASTEP
variable {sc : Nat × (Nat → Int)} {mi pc : Nat} {lv : LV} {st : List AV} {h : AH}
theorem aS_iconst {n : Int} (hd : decode (mCode mi) pc = .ok (.iconst n, 1)) : aStep sc mi pc lv st h = (bck (-1) 5 n (aNext (pc + 1) lv (.inl n :: st) h)) := by
  unfold aStep; rw [hd]; try rfl
theorem aS_bipush {n : Int} (hd : decode (mCode mi) pc = .ok (.bipush n, 2)) : aStep sc mi pc lv st h = (bck (-128) 127 n (aNext (pc + 2) lv (.inl n :: st) h)) := by
  unfold aStep; rw [hd]; try rfl
theorem aS_sipush {n : Int} (hd : decode (mCode mi) pc = .ok (.sipush n, 3)) : aStep sc mi pc lv st h = (bck (-32768) 32767 n (aNext (pc + 3) lv (.inl n :: st) h)) := by
  unfold aStep; rw [hd]; try rfl
theorem aS_ldc {i : Nat} (hd : decode (mCode mi) pc = .ok (.ldc i, 2)) : aStep sc mi pc lv st h = (gO (alook (kTab (mOwn mi)) i) fun n => aNext (pc + 2) lv (.inl n :: st) h) := by
  unfold aStep; rw [hd]; try rfl
theorem aS_iload_n {k : Fin 4} (hd : decode (mCode mi) pc = .ok (.iload_n k, 1)) : aStep sc mi pc lv st h = (gI lv k.val fun x => aNext (pc + 1) lv (.inl x :: st) h) := by
  unfold aStep; rw [hd]; try rfl
theorem aS_iload {i : Nat} (hd : decode (mCode mi) pc = .ok (.iload i, 2)) : aStep sc mi pc lv st h = (gI lv i fun x => aNext (pc + 2) lv (.inl x :: st) h) := by
  unfold aStep; rw [hd]; try rfl
theorem aS_aload_n {k : Fin 4} (hd : decode (mCode mi) pc = .ok (.aload_n k, 1)) : aStep sc mi pc lv st h = (gR lv k.val fun x => aNext (pc + 1) lv (.inr x :: st) h) := by
  unfold aStep; rw [hd]; try rfl
theorem aS_aload {i : Nat} (hd : decode (mCode mi) pc = .ok (.aload i, 2)) : aStep sc mi pc lv st h = (gR lv i fun x => aNext (pc + 2) lv (.inr x :: st) h) := by
  unfold aStep; rw [hd]; try rfl
theorem aS_istore_n {k : Fin 4} (hd : decode (mCode mi) pc = .ok (.istore_n k, 1)) : aStep sc mi pc lv st h = (sI st fun x st => gd (decide (k.val < lv.length)) (aNext (pc + 1) (lv.set k.val (some (.inl x))) st h)) := by
  unfold aStep; rw [hd]; try rfl
theorem aS_istore {i : Nat} (hd : decode (mCode mi) pc = .ok (.istore i, 2)) : aStep sc mi pc lv st h = (sI st fun x st => gd (decide (i < lv.length)) (aNext (pc + 2) (lv.set i (some (.inl x))) st h)) := by
  unfold aStep; rw [hd]; try rfl
theorem aS_astore_n {k : Fin 4} (hd : decode (mCode mi) pc = .ok (.astore_n k, 1)) : aStep sc mi pc lv st h = (sR st fun x st => gd (decide (k.val < lv.length)) (aNext (pc + 1) (lv.set k.val (some (.inr x))) st h)) := by
  unfold aStep; rw [hd]; try rfl
theorem aS_astore {i : Nat} (hd : decode (mCode mi) pc = .ok (.astore i, 2)) : aStep sc mi pc lv st h = (sR st fun x st => gd (decide (i < lv.length)) (aNext (pc + 2) (lv.set i (some (.inr x))) st h)) := by
  unfold aStep; rw [hd]; try rfl
theorem aS_iinc {i : Nat} {n : Int} (hd : decode (mCode mi) pc = .ok (.iinc i n, 3)) : aStep sc mi pc lv st h = (gI lv i fun x => gd (decide (i < lv.length)) (chk (x + n) (aNext (pc + 3) (lv.set i (some (.inl (x + n)))) st h))) := by
  unfold aStep; rw [hd]; try rfl
theorem aS_iadd (hd : decode (mCode mi) pc = .ok (.iadd, 1)) : aStep sc mi pc lv st h = (sI st fun y st => sI st fun x st => chk (x + y) (aNext (pc + 1) lv (.inl (x + y) :: st) h)) := by
  unfold aStep; rw [hd]; try rfl
theorem aS_isub (hd : decode (mCode mi) pc = .ok (.isub, 1)) : aStep sc mi pc lv st h = (sI st fun y st => sI st fun x st => chk (x - y) (aNext (pc + 1) lv (.inl (x - y) :: st) h)) := by
  unfold aStep; rw [hd]; try rfl
theorem aS_imul (hd : decode (mCode mi) pc = .ok (.imul, 1)) : aStep sc mi pc lv st h = (sI st fun y st => sI st fun x st => chk (x * y) (aNext (pc + 1) lv (.inl (x * y) :: st) h)) := by
  unfold aStep; rw [hd]; try rfl
theorem aS_idiv (hd : decode (mCode mi) pc = .ok (.idiv, 1)) : aStep sc mi pc lv st h = (sI st fun y st => sI st fun x st => bck 1 2147483647 y (bck 0 2147483647 x (aNext (pc + 1) lv (.inl (x / y) :: st) h))) := by
  unfold aStep; rw [hd]; try rfl
theorem aS_irem (hd : decode (mCode mi) pc = .ok (.irem, 1)) : aStep sc mi pc lv st h = (sI st fun y st => sI st fun x st => bck 1 2147483647 y (bck 0 2147483647 x (aNext (pc + 1) lv (.inl (x % y) :: st) h))) := by
  unfold aStep; rw [hd]; try rfl
theorem aS_ineg (hd : decode (mCode mi) pc = .ok (.ineg, 1)) : aStep sc mi pc lv st h = (sI st fun x st => chk (-x) (aNext (pc + 1) lv (.inl (-x) :: st) h)) := by
  unfold aStep; rw [hd]; try rfl
theorem aS_iand (hd : decode (mCode mi) pc = .ok (.iand, 1)) : aStep sc mi pc lv st h = (sI st fun y st => sI st fun x st => gd (decide (y = 1 ∨ y = 3 ∨ y = 31 ∨ y = 2147483647)) (aNext (pc + 1) lv (.inl (x % (y + 1)) :: st) h)) := by
  unfold aStep; rw [hd]; try rfl
theorem aS_ior (hd : decode (mCode mi) pc = .ok (.ior, 1)) : aStep sc mi pc lv st h = (sI st fun y st => sI st fun x st => bck 0 127 y (bck 0 127 x (aNext (pc + 1) lv (.inl ((x.toNat ||| y.toNat : Nat) : Int) :: st) h))) := by
  unfold aStep; rw [hd]; try rfl
theorem aS_ishl (hd : decode (mCode mi) pc = .ok (.ishl, 1)) : aStep sc mi pc lv st h = (sI st fun y st => sI st fun x st => gd (decide (x = 1)) (bck 0 6 y (aNext (pc + 1) lv (.inl ((2 ^ y.toNat : Nat) : Int) :: st) h))) := by
  unfold aStep; rw [hd]; try rfl
theorem aS_ishr (hd : decode (mCode mi) pc = .ok (.ishr, 1)) : aStep sc mi pc lv st h = (sI st fun y st => sI st fun x st => bck 0 31 y (aNext (pc + 1) lv (.inl (x / ((2 ^ y.toNat : Nat) : Int)) :: st) h)) := by
  unfold aStep; rw [hd]; try rfl
theorem aS_i2c (hd : decode (mCode mi) pc = .ok (.i2c, 1)) : aStep sc mi pc lv st h = (sI st fun x st => aNext (pc + 1) lv (.inl (x % 65536) :: st) h) := by
  unfold aStep; rw [hd]; try rfl
theorem aS_dup (hd : decode (mCode mi) pc = .ok (.dup, 1)) : aStep sc mi pc lv st h = (match st with | v :: st => aNext (pc + 1) lv (v :: v :: st) h | _ => none) := by
  unfold aStep; rw [hd]; try rfl
theorem aS_pop (hd : decode (mCode mi) pc = .ok (.pop, 1)) : aStep sc mi pc lv st h = (match st with | _ :: st => aNext (pc + 1) lv st h | _ => none) := by
  unfold aStep; rw [hd]; try rfl
theorem aS_dup2 (hd : decode (mCode mi) pc = .ok (.dup2, 1)) : aStep sc mi pc lv st h = (match st with | v :: w :: st => aNext (pc + 1) lv (v :: w :: v :: w :: st) h | _ => none) := by
  unfold aStep; rw [hd]; try rfl
theorem aS_goto {o : Int} (hd : decode (mCode mi) pc = .ok (.goto o, 3)) : aStep sc mi pc lv st h = (jmp pc o fun t => aNext t lv st h) := by
  unfold aStep; rw [hd]; try rfl
theorem aS_ifCond {c : Jvm.ClassFile.Cond} {o : Int} (hd : decode (mCode mi) pc = .ok (.ifCond c o, 3)) : aStep sc mi pc lv st h = (sI st fun x st => jmp pc o fun t => if cmpB c x 0 = true then aNext t lv st h else aNext (pc + 3) lv st h) := by
  unfold aStep; rw [hd]; try rfl
theorem aS_if_icmp {c : Jvm.ClassFile.Cond} {o : Int} (hd : decode (mCode mi) pc = .ok (.if_icmp c o, 3)) : aStep sc mi pc lv st h = (sI st fun y st => sI st fun x st => jmp pc o fun t => if cmpB c x y = true then aNext t lv st h else aNext (pc + 3) lv st h) := by
  unfold aStep; rw [hd]; try rfl
theorem aS_tableswitch {d : Int} {lo : Int} {hi : Int} {os : Array Int} {len : Nat} (hd : decode (mCode mi) pc = .ok (.tableswitch d lo hi os, len)) : aStep sc mi pc lv st h = (sI st fun x st => if x < lo ∨ hi < x then jmp pc d fun t => aNext t lv st h else gO os[(x - lo).toNat]? fun o => jmp pc o fun t => aNext t lv st h) := by
  unfold aStep; rw [hd]; try rfl
theorem aS_getfield {i : Nat} (hd : decode (mCode mi) pc = .ok (.getfield i, 3)) : aStep sc mi pc lv st h = (gO (alook (fTab (mOwn mi)) i) fun q => sR st fun a st => isA h a q.1 fun _ => if fRef q.1 q.2 = true then gd (decide (h.2.1 a q.2 ≠ 0)) (aNext (pc + 3) lv (.inr (h.2.1 a q.2) :: st) h) else aNext (pc + 3) lv (.inl (h.2.2 a q.2) :: st) h) := by
  unfold aStep; rw [hd]; try rfl
theorem aS_putfield {i : Nat} (hd : decode (mCode mi) pc = .ok (.putfield i, 3)) : aStep sc mi pc lv st h = (gO (alook (fTab (mOwn mi)) i) fun q => gd (!fFin q.1 q.2 || (mIni mi && decide (mOwn mi = q.1))) (if fRef q.1 q.2 = true then sR st fun v st => sR st fun a st => gd (decide (v ≠ 0)) (isA h a q.1 fun _ => aNext (pc + 3) lv st (h.1, setR h.2.1 a q.2 v, h.2.2)) else sI st fun x st => sR st fun a st => bck (fLo q.1 q.2) (fHi q.1 q.2) x (isA h a q.1 fun _ => aNext (pc + 3) lv st (h.1, h.2.1, setO h.2.2 a (upI (h.2.2 a) q.2 x))))) := by
  unfold aStep; rw [hd]; try rfl
theorem aS_iaload (hd : decode (mCode mi) pc = .ok (.iaload, 1)) : aStep sc mi pc lv st h = (sI st fun i st => sR st fun a st => if a = 0 then bck 0 ((sc.1 : Int) - 1) i (aNext (pc + 1) lv (.inl (sc.2 i.toNat) :: st) h) else isA h a 8 fun n => bck 0 ((n : Int) - 1) i (aNext (pc + 1) lv (.inl (h.2.2 a i.toNat) :: st) h)) := by
  unfold aStep; rw [hd]; try rfl
theorem aS_baload (hd : decode (mCode mi) pc = .ok (.baload, 1)) : aStep sc mi pc lv st h = (sI st fun i st => sR st fun a st => isA h a 9 fun n => bck 0 ((n : Int) - 1) i (aNext (pc + 1) lv (.inl (h.2.2 a i.toNat) :: st) h)) := by
  unfold aStep; rw [hd]; try rfl
theorem aS_caload (hd : decode (mCode mi) pc = .ok (.caload, 1)) : aStep sc mi pc lv st h = (sI st fun i st => sR st fun a st => isA h a 10 fun n => bck 0 ((n : Int) - 1) i (aNext (pc + 1) lv (.inl (h.2.2 a i.toNat) :: st) h)) := by
  unfold aStep; rw [hd]; try rfl
theorem aS_aaload (hd : decode (mCode mi) pc = .ok (.aaload, 1)) : aStep sc mi pc lv st h = (sI st fun i st => sR st fun a st => isA h a 11 fun n => bck 0 ((n : Int) - 1) i (gd (decide (h.2.1 a i.toNat ≠ 0)) (aNext (pc + 1) lv (.inr (h.2.1 a i.toNat) :: st) h))) := by
  unfold aStep; rw [hd]; try rfl
theorem aS_iastore (hd : decode (mCode mi) pc = .ok (.iastore, 1)) : aStep sc mi pc lv st h = (sI st fun x st => sI st fun i st => sR st fun a st => isA h a 8 fun n => bck 0 ((n : Int) - 1) i (bck (-2147483648) 2147483647 x (aNext (pc + 1) lv st (h.1, h.2.1, setO h.2.2 a (upI (h.2.2 a) i.toNat x))))) := by
  unfold aStep; rw [hd]; try rfl
theorem aS_bastore (hd : decode (mCode mi) pc = .ok (.bastore, 1)) : aStep sc mi pc lv st h = (sI st fun x st => sI st fun i st => sR st fun a st => isA h a 9 fun n => bck 0 ((n : Int) - 1) i (bck 0 1 x (aNext (pc + 1) lv st (h.1, h.2.1, setO h.2.2 a (upI (h.2.2 a) i.toNat x))))) := by
  unfold aStep; rw [hd]; try rfl
theorem aS_castore (hd : decode (mCode mi) pc = .ok (.castore, 1)) : aStep sc mi pc lv st h = (sI st fun x st => sI st fun i st => sR st fun a st => isA h a 10 fun n => bck 0 ((n : Int) - 1) i (bck 0 65535 x (aNext (pc + 1) lv st (h.1, h.2.1, setO h.2.2 a (upI (h.2.2 a) i.toNat x))))) := by
  unfold aStep; rw [hd]; try rfl
theorem aS_aastore (hd : decode (mCode mi) pc = .ok (.aastore, 1)) : aStep sc mi pc lv st h = (sR st fun v st => sI st fun i st => sR st fun a st => isA h v 2 fun _ => isA h a 11 fun n => bck 0 ((n : Int) - 1) i (aNext (pc + 1) lv st (h.1, setR h.2.1 a i.toNat v, h.2.2))) := by
  unfold aStep; rw [hd]; try rfl
theorem aS_arraylength (hd : decode (mCode mi) pc = .ok (.arraylength, 1)) : aStep sc mi pc lv st h = (sR st fun a st => gd (decide (a = 0)) (aNext (pc + 1) lv (.inl (sc.1 : Int) :: st) h)) := by
  unfold aStep; rw [hd]; try rfl
theorem aS_new {i : Nat} (hd : decode (mCode mi) pc = .ok (.new i, 3)) : aStep sc mi pc lv st h = (gO (alook (nTab (mOwn mi)) i) fun o => aNext (pc + 3) lv (.inr (h.1.length + 1) :: st) (h.1 ++ [(o, cN o)], h.2.1, h.2.2)) := by
  unfold aStep; rw [hd]; try rfl
theorem aS_newarray_int (hd : decode (mCode mi) pc = .ok (.newarray .int, 2)) : aStep sc mi pc lv st h = (sI st fun n st => bck 0 100000 n (aNext (pc + 2) lv (.inr (h.1.length + 1) :: st) (h.1 ++ [(8, n.toNat)], h.2.1, h.2.2))) := by
  unfold aStep; rw [hd]; try rfl
theorem aS_newarray_boolean (hd : decode (mCode mi) pc = .ok (.newarray .boolean, 2)) : aStep sc mi pc lv st h = (sI st fun n st => bck 0 100000 n (aNext (pc + 2) lv (.inr (h.1.length + 1) :: st) (h.1 ++ [(9, n.toNat)], h.2.1, h.2.2))) := by
  unfold aStep; rw [hd]; try rfl
theorem aS_newarray_char (hd : decode (mCode mi) pc = .ok (.newarray .char, 2)) : aStep sc mi pc lv st h = (sI st fun n st => bck 0 100000 n (aNext (pc + 2) lv (.inr (h.1.length + 1) :: st) (h.1 ++ [(10, n.toNat)], h.2.1, h.2.2))) := by
  unfold aStep; rw [hd]; try rfl
theorem aS_anewarray {i : Nat} (hd : decode (mCode mi) pc = .ok (.anewarray i, 3)) : aStep sc mi pc lv st h = (gd (decide (alook (nTab (mOwn mi)) i = some 2)) (sI st fun n st => bck 0 100000 n (aNext (pc + 3) lv (.inr (h.1.length + 1) :: st) (h.1 ++ [(11, n.toNat)], h.2.1, h.2.2)))) := by
  unfold aStep; rw [hd]; try rfl
theorem aS_ireturn (hd : decode (mCode mi) pc = .ok (.ireturn, 1)) : aStep sc mi pc lv st h = (match st with | [.inl x] => gd (decide (mRk mi = 1 ∨ (mRk mi = 2 ∧ 0 ≤ x ∧ x ≤ 1) ∨ (mRk mi = 3 ∧ 0 ≤ x ∧ x ≤ 65535))) (some (.inr (.inr (some (.inl x))))) | _ => none) := by
  unfold aStep; rw [hd]; try rfl
theorem aS_areturn (hd : decode (mCode mi) pc = .ok (.areturn, 1)) : aStep sc mi pc lv st h = (match st with | [.inr a] => gd (decide (mRk mi = 4 ∧ a ≠ 0)) (some (.inr (.inr (some (.inr a))))) | _ => none) := by
  unfold aStep; rw [hd]; try rfl
theorem aS_return_ (hd : decode (mCode mi) pc = .ok (.return_, 1)) : aStep sc mi pc lv st h = (match st with | [] => gd (decide (mRk mi = 0)) (some (.inr (.inr none))) | _ => none) := by
  unfold aStep; rw [hd]; try rfl
theorem aS_invokevirtual {i : Nat} (hd : decode (mCode mi) pc = .ok (.invokevirtual i, 3)) : aStep sc mi pc lv st h = (gO (alook (cTab (mOwn mi)) i) fun q => gd (decide (q.2.2 = 0 ∧ aFit mi q.1 ∧ q.2.1 < st.length)) (sR (st.drop q.2.1) fun b rest => isA h b (mOwn q.1) fun _ => aCall q.1 (.inr b :: (st.take q.2.1).reverse) (pc + 3) rest)) := by
  unfold aStep; rw [hd]; try rfl
theorem aS_invokestatic {i : Nat} (hd : decode (mCode mi) pc = .ok (.invokestatic i, 3)) : aStep sc mi pc lv st h = (gO (alook (cTab (mOwn mi)) i) fun q => match q.2.2 with
      | 1 => gd (decide (aFit mi q.1 ∧ q.2.1 ≤ st.length)) (aCall q.1 (st.take q.2.1).reverse (pc + 3) (st.drop q.2.1))
      | 2 => gd (decide (aFit mi q.1 ∧ q.2.1 ≤ st.length)) (aCall q.1 (st.take q.2.1).reverse (pc + 3) (st.drop q.2.1))
      | 6 => sI st fun y st => sI st fun x st => gd (decide (1 ≤ mFr mi ∧ st.length + 13 ≤ mLo mi)) (aNext (pc + 3) lv (.inl (if x < y then y else x) :: st) h)
      | 7 => sI st fun y st => sI st fun x st => gd (decide (1 ≤ mFr mi ∧ st.length + 13 ≤ mLo mi)) (aNext (pc + 3) lv (.inl (if y < x then y else x) :: st) h)
      | 8 => sI st fun x st => gd (decide (1 ≤ mFr mi ∧ st.length + 13 ≤ mLo mi)) (bck (-2147483647) 2147483647 x (aNext (pc + 3) lv (.inl (if 0 ≤ x then x else 0 - x) :: st) h))
      | _ => none) := by
  unfold aStep; rw [hd]; try rfl
theorem aS_invokespecial {i : Nat} (hd : decode (mCode mi) pc = .ok (.invokespecial i, 3)) : aStep sc mi pc lv st h = (gO (alook (cTab (mOwn mi)) i) fun q => match q.2.2 with
      | 3 => gd (decide (aFit mi q.1 ∧ q.2.1 < st.length)) (sR (st.drop q.2.1) fun b rest => gd (decide (b ≠ 0)) (aCall q.1 (.inr b :: (st.take q.2.1).reverse) (pc + 3) rest))
      | 4 => gd (decide (aFit mi q.1 ∧ q.2.1 < st.length)) (sR (st.drop q.2.1) fun b rest => gd (decide (b ≠ 0)) (aCall q.1 (.inr b :: (st.take q.2.1).reverse) (pc + 3) rest))
      | 5 => sR st fun a st => gd (decide (1 ≤ mFr mi ∧ st.length + 12 ≤ mLo mi ∧ a ≠ 0)) (aNext (pc + 3) lv st h)
      | _ => none) := by
  unfold aStep; rw [hd]; try rfl
end ASTEP
section RUNS
variable {sc : Nat × (Nat → Int)} {mi pc : Nat} {lv : LV} {st : List AV} {h : AH} {cc : ByteArray}
theorem R_iconst {n : Int} (hm : mCode mi = cc) (hd : decode cc pc = .ok (.iconst n, 1)) (hn : -1 ≤ n ∧ n ≤ 5) : Run sc mi pc lv st h = Run sc mi (pc + 1) lv (I n :: st) h := by
  subst hm
  refine Run_O (o := aNext (pc + 1) lv (.inl n :: st) h) (by rw [aS_iconst hd]; exact if_pos hn) rfl
theorem R_bipush {n : Int} (hm : mCode mi = cc) (hd : decode cc pc = .ok (.bipush n, 2)) (hn : -128 ≤ n ∧ n ≤ 127) : Run sc mi pc lv st h = Run sc mi (pc + 2) lv (I n :: st) h := by
  subst hm
  refine Run_O (o := aNext (pc + 2) lv (.inl n :: st) h) (by rw [aS_bipush hd]; exact if_pos hn) rfl
theorem R_sipush {n : Int} (hm : mCode mi = cc) (hd : decode cc pc = .ok (.sipush n, 3)) (hn : -32768 ≤ n ∧ n ≤ 32767) : Run sc mi pc lv st h = Run sc mi (pc + 3) lv (I n :: st) h := by
  subst hm
  refine Run_O (o := aNext (pc + 3) lv (.inl n :: st) h) (by rw [aS_sipush hd]; exact if_pos hn) rfl
theorem R_ldc {own i : Nat} {n : Int} (hm : mCode mi = cc) (hd : decode cc pc = .ok (.ldc i, 2)) (ho : mOwn mi = own) (hk : alook (kTab own) i = some n) : Run sc mi pc lv st h = Run sc mi (pc + 2) lv (I n :: st) h := by
  subst hm
  refine Run_O (o := aNext (pc + 2) lv (.inl n :: st) h) (by rw [aS_ldc hd]; (try dsimp only); rw [ho, hk]; rfl) rfl
theorem R_iload_n {k : Fin 4} {x : Int} (hm : mCode mi = cc) (hd : decode cc pc = .ok (.iload_n k, 1)) (hv : lv[k.val]? = some (some (I x))) : Run sc mi pc lv st h = Run sc mi (pc + 1) lv (I x :: st) h := by
  subst hm
  refine Run_O (o := aNext (pc + 1) lv (I x :: st) h) (by rw [aS_iload_n hd]; (try dsimp only); unfold gI; rw [hv]) rfl
theorem R_iload {i : Nat} {x : Int} (hm : mCode mi = cc) (hd : decode cc pc = .ok (.iload i, 2)) (hv : lv[i]? = some (some (I x))) : Run sc mi pc lv st h = Run sc mi (pc + 2) lv (I x :: st) h := by
  subst hm
  refine Run_O (o := aNext (pc + 2) lv (I x :: st) h) (by rw [aS_iload hd]; (try dsimp only); unfold gI; rw [hv]) rfl
theorem R_aload_n {k : Fin 4} {x : Nat} (hm : mCode mi = cc) (hd : decode cc pc = .ok (.aload_n k, 1)) (hv : lv[k.val]? = some (some (Rf x))) : Run sc mi pc lv st h = Run sc mi (pc + 1) lv (Rf x :: st) h := by
  subst hm
  refine Run_O (o := aNext (pc + 1) lv (Rf x :: st) h) (by rw [aS_aload_n hd]; (try dsimp only); unfold gR; rw [hv]) rfl
theorem R_aload {i : Nat} {x : Nat} (hm : mCode mi = cc) (hd : decode cc pc = .ok (.aload i, 2)) (hv : lv[i]? = some (some (Rf x))) : Run sc mi pc lv st h = Run sc mi (pc + 2) lv (Rf x :: st) h := by
  subst hm
  refine Run_O (o := aNext (pc + 2) lv (Rf x :: st) h) (by rw [aS_aload hd]; (try dsimp only); unfold gR; rw [hv]) rfl
theorem R_istore_n {k : Fin 4} {x : Int} (hm : mCode mi = cc) (hd : decode cc pc = .ok (.istore_n k, 1)) (hv : k.val < lv.length) : Run sc mi pc lv (I x :: st) h = Run sc mi (pc + 1) (lv.set k.val (some (I x))) st h := by
  subst hm
  refine Run_O (o := aNext (pc + 1) (lv.set k.val (some (I x))) st h) (by rw [aS_istore_n hd]; (try dsimp only [sI, sR]); rw [decide_eq_true hv]; rfl) rfl
theorem R_istore {i : Nat} {x : Int} (hm : mCode mi = cc) (hd : decode cc pc = .ok (.istore i, 2)) (hv : i < lv.length) : Run sc mi pc lv (I x :: st) h = Run sc mi (pc + 2) (lv.set i (some (I x))) st h := by
  subst hm
  refine Run_O (o := aNext (pc + 2) (lv.set i (some (I x))) st h) (by rw [aS_istore hd]; (try dsimp only [sI, sR]); rw [decide_eq_true hv]; rfl) rfl
theorem R_astore_n {k : Fin 4} {x : Nat} (hm : mCode mi = cc) (hd : decode cc pc = .ok (.astore_n k, 1)) (hv : k.val < lv.length) : Run sc mi pc lv (Rf x :: st) h = Run sc mi (pc + 1) (lv.set k.val (some (Rf x))) st h := by
  subst hm
  refine Run_O (o := aNext (pc + 1) (lv.set k.val (some (Rf x))) st h) (by rw [aS_astore_n hd]; (try dsimp only [sI, sR]); rw [decide_eq_true hv]; rfl) rfl
theorem R_astore {i : Nat} {x : Nat} (hm : mCode mi = cc) (hd : decode cc pc = .ok (.astore i, 2)) (hv : i < lv.length) : Run sc mi pc lv (Rf x :: st) h = Run sc mi (pc + 2) (lv.set i (some (Rf x))) st h := by
  subst hm
  refine Run_O (o := aNext (pc + 2) (lv.set i (some (Rf x))) st h) (by rw [aS_astore hd]; (try dsimp only [sI, sR]); rw [decide_eq_true hv]; rfl) rfl
theorem R_iinc {i : Nat} {n x : Int} (hm : mCode mi = cc) (hd : decode cc pc = .ok (.iinc i n, 3)) (hv : lv[i]? = some (some (I x))) : Run sc mi pc lv st h = chk (x + n) (Run sc mi (pc + 3) (lv.set i (some (I (x + n)))) st h) := by
  subst hm
  refine Run_O (o := chk (x + n) (aNext (pc + 3) (lv.set i (some (I (x + n)))) st h)) (by rw [aS_iinc hd]; (try dsimp only); unfold gI; rw [hv]; (try dsimp only); rw [decide_eq_true (List.getElem?_eq_some_iff.mp hv).1]; rfl) (RunO_bck rfl)
theorem R_iadd {x y : Int} (hm : mCode mi = cc) (hd : decode cc pc = .ok (.iadd, 1))  : Run sc mi pc lv (I y :: I x :: st) h = chk (x + y) (Run sc mi (pc + 1) lv (I (x + y) :: st) h) := by
  subst hm
  refine Run_O (o := chk (x + y) (aNext (pc + 1) lv (I (x + y) :: st) h)) (by rw [aS_iadd hd]; rfl) (RunO_bck rfl)
theorem R_isub {x y : Int} (hm : mCode mi = cc) (hd : decode cc pc = .ok (.isub, 1))  : Run sc mi pc lv (I y :: I x :: st) h = chk (x - y) (Run sc mi (pc + 1) lv (I (x - y) :: st) h) := by
  subst hm
  refine Run_O (o := chk (x - y) (aNext (pc + 1) lv (I (x - y) :: st) h)) (by rw [aS_isub hd]; rfl) (RunO_bck rfl)
theorem R_imul {x y : Int} (hm : mCode mi = cc) (hd : decode cc pc = .ok (.imul, 1))  : Run sc mi pc lv (I y :: I x :: st) h = chk (x * y) (Run sc mi (pc + 1) lv (I (x * y) :: st) h) := by
  subst hm
  refine Run_O (o := chk (x * y) (aNext (pc + 1) lv (I (x * y) :: st) h)) (by rw [aS_imul hd]; rfl) (RunO_bck rfl)
theorem R_idiv {x y : Int} (hm : mCode mi = cc) (hd : decode cc pc = .ok (.idiv, 1))  : Run sc mi pc lv (I y :: I x :: st) h = bck 1 2147483647 y (bck 0 2147483647 x (Run sc mi (pc + 1) lv (I (x / y) :: st) h)) := by
  subst hm
  refine Run_O (o := bck 1 2147483647 y (bck 0 2147483647 x (aNext (pc + 1) lv (I (x / y) :: st) h))) (by rw [aS_idiv hd]; rfl) (RunO_bck (RunO_bck rfl))
theorem R_irem {x y : Int} (hm : mCode mi = cc) (hd : decode cc pc = .ok (.irem, 1))  : Run sc mi pc lv (I y :: I x :: st) h = bck 1 2147483647 y (bck 0 2147483647 x (Run sc mi (pc + 1) lv (I (x % y) :: st) h)) := by
  subst hm
  refine Run_O (o := bck 1 2147483647 y (bck 0 2147483647 x (aNext (pc + 1) lv (I (x % y) :: st) h))) (by rw [aS_irem hd]; rfl) (RunO_bck (RunO_bck rfl))
theorem R_ineg {x : Int} (hm : mCode mi = cc) (hd : decode cc pc = .ok (.ineg, 1))  : Run sc mi pc lv (I x :: st) h = chk (-x) (Run sc mi (pc + 1) lv (I (-x) :: st) h) := by
  subst hm
  refine Run_O (o := chk (-x) (aNext (pc + 1) lv (I (-x) :: st) h)) (by rw [aS_ineg hd]; rfl) (RunO_bck rfl)
theorem R_iand {x y : Int} (hm : mCode mi = cc) (hd : decode cc pc = .ok (.iand, 1)) (hy : y = 1 ∨ y = 3 ∨ y = 31 ∨ y = 2147483647) : Run sc mi pc lv (I y :: I x :: st) h = Run sc mi (pc + 1) lv (I (x % (y + 1)) :: st) h := by
  subst hm
  refine Run_O (o := aNext (pc + 1) lv (I (x % (y + 1)) :: st) h) (by rw [aS_iand hd]; (try dsimp only [sI]); rw [decide_eq_true hy]; rfl) rfl
theorem R_ior {x y : Int} (hm : mCode mi = cc) (hd : decode cc pc = .ok (.ior, 1))  : Run sc mi pc lv (I y :: I x :: st) h = bck 0 127 y (bck 0 127 x (Run sc mi (pc + 1) lv (I ((x.toNat ||| y.toNat : Nat) : Int) :: st) h)) := by
  subst hm
  refine Run_O (o := bck 0 127 y (bck 0 127 x (aNext (pc + 1) lv (I ((x.toNat ||| y.toNat : Nat) : Int) :: st) h))) (by rw [aS_ior hd]; rfl) (RunO_bck (RunO_bck rfl))
theorem R_ishl {y : Int} (hm : mCode mi = cc) (hd : decode cc pc = .ok (.ishl, 1))  : Run sc mi pc lv (I y :: I 1 :: st) h = bck 0 6 y (Run sc mi (pc + 1) lv (I ((2 ^ y.toNat : Nat) : Int) :: st) h) := by
  subst hm
  refine Run_O (o := bck 0 6 y (aNext (pc + 1) lv (I ((2 ^ y.toNat : Nat) : Int) :: st) h)) (by rw [aS_ishl hd]; rfl) (RunO_bck rfl)
theorem R_ishr {x y : Int} (hm : mCode mi = cc) (hd : decode cc pc = .ok (.ishr, 1))  : Run sc mi pc lv (I y :: I x :: st) h = bck 0 31 y (Run sc mi (pc + 1) lv (I (x / ((2 ^ y.toNat : Nat) : Int)) :: st) h) := by
  subst hm
  refine Run_O (o := bck 0 31 y (aNext (pc + 1) lv (I (x / ((2 ^ y.toNat : Nat) : Int)) :: st) h)) (by rw [aS_ishr hd]; rfl) (RunO_bck rfl)
theorem R_ishrK {x y z : Int} (hm : mCode mi = cc) (hd : decode cc pc = .ok (.ishr, 1)) (hy : 0 ≤ y ∧ y ≤ 31) (hz : ((2 ^ y.toNat : Nat) : Int) = z) : Run sc mi pc lv (I y :: I x :: st) h = Run sc mi (pc + 1) lv (I (x / z) :: st) h := by
  subst hm
  subst hz
  exact (R_ishr rfl hd).trans (bck_pos hy)
theorem R_i2c {x : Int} (hm : mCode mi = cc) (hd : decode cc pc = .ok (.i2c, 1))  : Run sc mi pc lv (I x :: st) h = Run sc mi (pc + 1) lv (I (x % 65536) :: st) h := by
  subst hm
  refine Run_O (o := aNext (pc + 1) lv (I (x % 65536) :: st) h) (by rw [aS_i2c hd]; rfl) rfl
theorem R_dup {v : AV} (hm : mCode mi = cc) (hd : decode cc pc = .ok (.dup, 1))  : Run sc mi pc lv (v :: st) h = Run sc mi (pc + 1) lv (v :: v :: st) h := by
  subst hm
  refine Run_O (o := aNext (pc + 1) lv (v :: v :: st) h) (aS_dup hd) rfl
theorem R_pop {v : AV} (hm : mCode mi = cc) (hd : decode cc pc = .ok (.pop, 1))  : Run sc mi pc lv (v :: st) h = Run sc mi (pc + 1) lv st h := by
  subst hm
  refine Run_O (o := aNext (pc + 1) lv st h) (aS_pop hd) rfl
theorem R_dup2 {v w : AV} (hm : mCode mi = cc) (hd : decode cc pc = .ok (.dup2, 1))  : Run sc mi pc lv (v :: w :: st) h = Run sc mi (pc + 1) lv (v :: w :: v :: w :: st) h := by
  subst hm
  refine Run_O (o := aNext (pc + 1) lv (v :: w :: v :: w :: st) h) (aS_dup2 hd) rfl
theorem R_goto {o : Int} {t : Nat} (hm : mCode mi = cc) (hd : decode cc pc = .ok (.goto o, 3)) (ht : (pc : Int) + o = (t : Int)) : Run sc mi pc lv st h = Run sc mi t lv st h := by
  subst hm
  refine Run_O (o := aNext t lv st h) (by rw [aS_goto hd]; (try dsimp only); rw [jmp_of ht]) rfl
theorem R_if_eq {x : Int} {o : Int} {t : Nat} (hm : mCode mi = cc) (hd : decode cc pc = .ok (.ifCond .eq o, 3)) (ht : (pc : Int) + o = (t : Int)) : Run sc mi pc lv (I x :: st) h = if x = 0 then Run sc mi t lv st h else Run sc mi (pc + 3) lv st h := by
  subst hm
  have e1 : aStep sc mi pc lv (I x :: st) h = (if x = 0 then aNext t lv st h else aNext (pc + 3) lv st h) := by
    rw [aS_ifCond hd]
    show (jmp pc o fun t => if cmpB .eq x 0 = true then aNext t lv st h else aNext (pc + 3) lv st h) = _
    rw [jmp_of ht]
    by_cases q : x = 0
    · rw [if_pos q]; exact if_pos (decide_eq_true q)
    · rw [if_neg q]; exact if_neg (fun z => q (of_decide_eq_true z))
  exact Run_O e1 (RunO_ite rfl rfl)
theorem R_if_ne {x : Int} {o : Int} {t : Nat} (hm : mCode mi = cc) (hd : decode cc pc = .ok (.ifCond .ne o, 3)) (ht : (pc : Int) + o = (t : Int)) : Run sc mi pc lv (I x :: st) h = if x = 0 then Run sc mi (pc + 3) lv st h else Run sc mi t lv st h := by
  subst hm
  have e1 : aStep sc mi pc lv (I x :: st) h = (if x = 0 then aNext (pc + 3) lv st h else aNext t lv st h) := by
    rw [aS_ifCond hd]
    show (jmp pc o fun t => if cmpB .ne x 0 = true then aNext t lv st h else aNext (pc + 3) lv st h) = _
    rw [jmp_of ht]
    by_cases q : x = 0
    · rw [if_pos q]; exact if_neg (fun z => absurd q (of_decide_eq_true z))
    · rw [if_neg q]; exact if_pos (decide_eq_true q)
  exact Run_O e1 (RunO_ite rfl rfl)
theorem R_if_lt {x : Int} {o : Int} {t : Nat} (hm : mCode mi = cc) (hd : decode cc pc = .ok (.ifCond .lt o, 3)) (ht : (pc : Int) + o = (t : Int)) : Run sc mi pc lv (I x :: st) h = if x < 0 then Run sc mi t lv st h else Run sc mi (pc + 3) lv st h := by
  subst hm
  have e1 : aStep sc mi pc lv (I x :: st) h = (if x < 0 then aNext t lv st h else aNext (pc + 3) lv st h) := by
    rw [aS_ifCond hd]
    show (jmp pc o fun t => if cmpB .lt x 0 = true then aNext t lv st h else aNext (pc + 3) lv st h) = _
    rw [jmp_of ht]
    by_cases q : x < 0
    · rw [if_pos q]; exact if_pos (decide_eq_true q)
    · rw [if_neg q]; exact if_neg (fun z => q (of_decide_eq_true z))
  exact Run_O e1 (RunO_ite rfl rfl)
theorem R_if_ge {x : Int} {o : Int} {t : Nat} (hm : mCode mi = cc) (hd : decode cc pc = .ok (.ifCond .ge o, 3)) (ht : (pc : Int) + o = (t : Int)) : Run sc mi pc lv (I x :: st) h = if x < 0 then Run sc mi (pc + 3) lv st h else Run sc mi t lv st h := by
  subst hm
  have e1 : aStep sc mi pc lv (I x :: st) h = (if x < 0 then aNext (pc + 3) lv st h else aNext t lv st h) := by
    rw [aS_ifCond hd]
    show (jmp pc o fun t => if cmpB .ge x 0 = true then aNext t lv st h else aNext (pc + 3) lv st h) = _
    rw [jmp_of ht]
    by_cases q : x < 0
    · rw [if_pos q]; exact if_neg (fun z => by have := of_decide_eq_true z; omega)
    · rw [if_neg q]; exact if_pos (decide_eq_true (show _ ≤ _ by omega))
  exact Run_O e1 (RunO_ite rfl rfl)
theorem R_if_gt {x : Int} {o : Int} {t : Nat} (hm : mCode mi = cc) (hd : decode cc pc = .ok (.ifCond .gt o, 3)) (ht : (pc : Int) + o = (t : Int)) : Run sc mi pc lv (I x :: st) h = if 0 < x then Run sc mi t lv st h else Run sc mi (pc + 3) lv st h := by
  subst hm
  have e1 : aStep sc mi pc lv (I x :: st) h = (if 0 < x then aNext t lv st h else aNext (pc + 3) lv st h) := by
    rw [aS_ifCond hd]
    show (jmp pc o fun t => if cmpB .gt x 0 = true then aNext t lv st h else aNext (pc + 3) lv st h) = _
    rw [jmp_of ht]
    by_cases q : 0 < x
    · rw [if_pos q]; exact if_pos (decide_eq_true q)
    · rw [if_neg q]; exact if_neg (fun z => q (of_decide_eq_true z))
  exact Run_O e1 (RunO_ite rfl rfl)
theorem R_if_le {x : Int} {o : Int} {t : Nat} (hm : mCode mi = cc) (hd : decode cc pc = .ok (.ifCond .le o, 3)) (ht : (pc : Int) + o = (t : Int)) : Run sc mi pc lv (I x :: st) h = if 0 < x then Run sc mi (pc + 3) lv st h else Run sc mi t lv st h := by
  subst hm
  have e1 : aStep sc mi pc lv (I x :: st) h = (if 0 < x then aNext (pc + 3) lv st h else aNext t lv st h) := by
    rw [aS_ifCond hd]
    show (jmp pc o fun t => if cmpB .le x 0 = true then aNext t lv st h else aNext (pc + 3) lv st h) = _
    rw [jmp_of ht]
    by_cases q : 0 < x
    · rw [if_pos q]; exact if_neg (fun z => by have := of_decide_eq_true z; omega)
    · rw [if_neg q]; exact if_pos (decide_eq_true (show _ ≤ _ by omega))
  exact Run_O e1 (RunO_ite rfl rfl)
theorem R_icmp_eq {x y : Int} {o : Int} {t : Nat} (hm : mCode mi = cc) (hd : decode cc pc = .ok (.if_icmp .eq o, 3)) (ht : (pc : Int) + o = (t : Int)) : Run sc mi pc lv (I y :: I x :: st) h = if x = y then Run sc mi t lv st h else Run sc mi (pc + 3) lv st h := by
  subst hm
  have e1 : aStep sc mi pc lv (I y :: I x :: st) h = (if x = y then aNext t lv st h else aNext (pc + 3) lv st h) := by
    rw [aS_if_icmp hd]
    show (jmp pc o fun t => if cmpB .eq x y = true then aNext t lv st h else aNext (pc + 3) lv st h) = _
    rw [jmp_of ht]
    by_cases q : x = y
    · rw [if_pos q]; exact if_pos (decide_eq_true q)
    · rw [if_neg q]; exact if_neg (fun z => q (of_decide_eq_true z))
  exact Run_O e1 (RunO_ite rfl rfl)
theorem R_icmp_ne {x y : Int} {o : Int} {t : Nat} (hm : mCode mi = cc) (hd : decode cc pc = .ok (.if_icmp .ne o, 3)) (ht : (pc : Int) + o = (t : Int)) : Run sc mi pc lv (I y :: I x :: st) h = if x = y then Run sc mi (pc + 3) lv st h else Run sc mi t lv st h := by
  subst hm
  have e1 : aStep sc mi pc lv (I y :: I x :: st) h = (if x = y then aNext (pc + 3) lv st h else aNext t lv st h) := by
    rw [aS_if_icmp hd]
    show (jmp pc o fun t => if cmpB .ne x y = true then aNext t lv st h else aNext (pc + 3) lv st h) = _
    rw [jmp_of ht]
    by_cases q : x = y
    · rw [if_pos q]; exact if_neg (fun z => absurd q (of_decide_eq_true z))
    · rw [if_neg q]; exact if_pos (decide_eq_true q)
  exact Run_O e1 (RunO_ite rfl rfl)
theorem R_icmp_lt {x y : Int} {o : Int} {t : Nat} (hm : mCode mi = cc) (hd : decode cc pc = .ok (.if_icmp .lt o, 3)) (ht : (pc : Int) + o = (t : Int)) : Run sc mi pc lv (I y :: I x :: st) h = if x < y then Run sc mi t lv st h else Run sc mi (pc + 3) lv st h := by
  subst hm
  have e1 : aStep sc mi pc lv (I y :: I x :: st) h = (if x < y then aNext t lv st h else aNext (pc + 3) lv st h) := by
    rw [aS_if_icmp hd]
    show (jmp pc o fun t => if cmpB .lt x y = true then aNext t lv st h else aNext (pc + 3) lv st h) = _
    rw [jmp_of ht]
    by_cases q : x < y
    · rw [if_pos q]; exact if_pos (decide_eq_true q)
    · rw [if_neg q]; exact if_neg (fun z => q (of_decide_eq_true z))
  exact Run_O e1 (RunO_ite rfl rfl)
theorem R_icmp_ge {x y : Int} {o : Int} {t : Nat} (hm : mCode mi = cc) (hd : decode cc pc = .ok (.if_icmp .ge o, 3)) (ht : (pc : Int) + o = (t : Int)) : Run sc mi pc lv (I y :: I x :: st) h = if x < y then Run sc mi (pc + 3) lv st h else Run sc mi t lv st h := by
  subst hm
  have e1 : aStep sc mi pc lv (I y :: I x :: st) h = (if x < y then aNext (pc + 3) lv st h else aNext t lv st h) := by
    rw [aS_if_icmp hd]
    show (jmp pc o fun t => if cmpB .ge x y = true then aNext t lv st h else aNext (pc + 3) lv st h) = _
    rw [jmp_of ht]
    by_cases q : x < y
    · rw [if_pos q]; exact if_neg (fun z => by have := of_decide_eq_true z; omega)
    · rw [if_neg q]; exact if_pos (decide_eq_true (show _ ≤ _ by omega))
  exact Run_O e1 (RunO_ite rfl rfl)
theorem R_icmp_gt {x y : Int} {o : Int} {t : Nat} (hm : mCode mi = cc) (hd : decode cc pc = .ok (.if_icmp .gt o, 3)) (ht : (pc : Int) + o = (t : Int)) : Run sc mi pc lv (I y :: I x :: st) h = if y < x then Run sc mi t lv st h else Run sc mi (pc + 3) lv st h := by
  subst hm
  have e1 : aStep sc mi pc lv (I y :: I x :: st) h = (if y < x then aNext t lv st h else aNext (pc + 3) lv st h) := by
    rw [aS_if_icmp hd]
    show (jmp pc o fun t => if cmpB .gt x y = true then aNext t lv st h else aNext (pc + 3) lv st h) = _
    rw [jmp_of ht]
    by_cases q : y < x
    · rw [if_pos q]; exact if_pos (decide_eq_true q)
    · rw [if_neg q]; exact if_neg (fun z => q (of_decide_eq_true z))
  exact Run_O e1 (RunO_ite rfl rfl)
theorem R_icmp_le {x y : Int} {o : Int} {t : Nat} (hm : mCode mi = cc) (hd : decode cc pc = .ok (.if_icmp .le o, 3)) (ht : (pc : Int) + o = (t : Int)) : Run sc mi pc lv (I y :: I x :: st) h = if y < x then Run sc mi (pc + 3) lv st h else Run sc mi t lv st h := by
  subst hm
  have e1 : aStep sc mi pc lv (I y :: I x :: st) h = (if y < x then aNext (pc + 3) lv st h else aNext t lv st h) := by
    rw [aS_if_icmp hd]
    show (jmp pc o fun t => if cmpB .le x y = true then aNext t lv st h else aNext (pc + 3) lv st h) = _
    rw [jmp_of ht]
    by_cases q : y < x
    · rw [if_pos q]; exact if_neg (fun z => by have := of_decide_eq_true z; omega)
    · rw [if_neg q]; exact if_pos (decide_eq_true (show _ ≤ _ by omega))
  exact Run_O e1 (RunO_ite rfl rfl)
theorem R_switch (hm : mCode mi = cc) {x d lo hi : Int} {os : Array Int} {len : Nat} {r : Option AR} (hd : decode cc pc = .ok (.tableswitch d lo hi os, len)) (hr : RunO sc mi lv h (if x < lo ∨ hi < x then jmp pc d fun t => aNext t lv st h else gO os[(x - lo).toNat]? fun o => jmp pc o fun t => aNext t lv st h) r) : Run sc mi pc lv (I x :: st) h = r := by
  subst hm
  exact Run_O (aS_tableswitch hd) hr
theorem R_switchIn {x d lo hi : Int} {os : Array Int} {len t : Nat} {o : Int} (hm : mCode mi = cc) (hd : decode cc pc = .ok (.tableswitch d lo hi os, len)) (h1 : lo ≤ x) (h2 : x ≤ hi) (ho : os[(x - lo).toNat]? = some o) (ht : (pc : Int) + o = (t : Int)) : Run sc mi pc lv (I x :: st) h = Run sc mi t lv st h := by
  refine R_switch hm hd ?_
  rw [if_neg (show ¬ (x < lo ∨ hi < x) by omega), ho]
  show RunO sc mi lv h (jmp pc o fun t => aNext t lv st h) _
  rw [jmp_of ht]
  exact rfl
theorem R_switchOut {x d lo hi : Int} {os : Array Int} {len t : Nat} (hm : mCode mi = cc) (hd : decode cc pc = .ok (.tableswitch d lo hi os, len)) (h1 : x < lo ∨ hi < x) (ht : (pc : Int) + d = (t : Int)) : Run sc mi pc lv (I x :: st) h = Run sc mi t lv st h := by
  refine R_switch hm hd ?_
  rw [if_pos h1, jmp_of ht]
  exact rfl
theorem R_getI {own i a ci k n : Nat} (hm : mCode mi = cc) (hd : decode cc pc = .ok (.getfield i, 3)) (ho : mOwn mi = own) (hf : alook (fTab own) i = some (ci, k)) (hc : kOf h.1 a = some (ci, n)) (hr : fRef ci k = false) : Run sc mi pc lv (Rf a :: st) h = Run sc mi (pc + 3) lv (I (h.2.2 a k) :: st) h := by
  subst hm
  refine Run_O (o := aNext (pc + 3) lv (I (h.2.2 a k) :: st) h) (by rw [aS_getfield hd]; (try dsimp only); rw [ho, hf]; (try dsimp only [gO, sR]); rw [isA_of hc]; (try dsimp only); rw [hr]; rfl) rfl
theorem R_getR {own i a ci k n r : Nat} (hm : mCode mi = cc) (hd : decode cc pc = .ok (.getfield i, 3)) (ho : mOwn mi = own) (hf : alook (fTab own) i = some (ci, k)) (hc : kOf h.1 a = some (ci, n)) (hr : fRef ci k = true) (hv : h.2.1 a k = r) (hr0 : r ≠ 0) : Run sc mi pc lv (Rf a :: st) h = Run sc mi (pc + 3) lv (Rf r :: st) h := by
  subst hm
  subst hv
  refine Run_O (o := aNext (pc + 3) lv (Rf (h.2.1 a k) :: st) h) (by rw [aS_getfield hd]; (try dsimp only); rw [ho, hf]; (try dsimp only [gO, sR]); rw [isA_of hc]; (try dsimp only); rw [hr, decide_eq_true hr0]; rfl) rfl
theorem R_putI {own i a ci k n : Nat} {x lo hi : Int} (hm : mCode mi = cc) (hd : decode cc pc = .ok (.putfield i, 3)) (ho : mOwn mi = own) (hf : alook (fTab own) i = some (ci, k)) (hfin : (!fFin ci k || (mIni mi && decide (own = ci))) = true) (hc : kOf h.1 a = some (ci, n)) (hr : fRef ci k = false) (hlo : fLo ci k = lo) (hhi : fHi ci k = hi) : Run sc mi pc lv (I x :: Rf a :: st) h = bck lo hi x (Run sc mi (pc + 3) lv st (h.1, h.2.1, setO h.2.2 a (upI (h.2.2 a) k x))) := by
  subst hm
  subst hlo hhi
  refine Run_O (o := bck (fLo ci k) (fHi ci k) x (aNext (pc + 3) lv st (h.1, h.2.1, setO h.2.2 a (upI (h.2.2 a) k x)))) (by rw [aS_putfield hd]; (try dsimp only); rw [ho, hf]; (try dsimp only [gO]); rw [hfin]; (try dsimp only [gd]); rw [hr]; (try dsimp only [sI, sR]); rw [isA_of hc]; rfl) (RunO_bck rfl)
theorem R_putR {own i a ci k n v : Nat} (hm : mCode mi = cc) (hd : decode cc pc = .ok (.putfield i, 3)) (ho : mOwn mi = own) (hf : alook (fTab own) i = some (ci, k)) (hfin : (!fFin ci k || (mIni mi && decide (own = ci))) = true) (hc : kOf h.1 a = some (ci, n)) (hr : fRef ci k = true) (hv : v ≠ 0) : Run sc mi pc lv (Rf v :: Rf a :: st) h = Run sc mi (pc + 3) lv st (h.1, setR h.2.1 a k v, h.2.2) := by
  subst hm
  refine Run_O (o := aNext (pc + 3) lv st (h.1, setR h.2.1 a k v, h.2.2)) (by rw [aS_putfield hd]; (try dsimp only); rw [ho, hf]; (try dsimp only [gO]); rw [hfin]; (try dsimp only [gd]); rw [hr]; (try dsimp only [sI, sR]); rw [decide_eq_true hv]; (try dsimp only [gd]); rw [isA_of hc]; rfl) rfl
theorem R_iaload {a n : Nat} {i : Int} (hm : mCode mi = cc) (hd : decode cc pc = .ok (.iaload, 1)) (hc : kOf h.1 a = some (8, n)) : Run sc mi pc lv (I i :: Rf a :: st) h = bck 0 ((n : Int) - 1) i (Run sc mi (pc + 1) lv (I (h.2.2 a i.toNat) :: st) h) := by
  subst hm
  refine Run_O (o := bck 0 ((n : Int) - 1) i (aNext (pc + 1) lv (I (h.2.2 a i.toNat) :: st) h)) (by rw [aS_iaload hd]; (try dsimp only [sI, sR]); rw [if_neg (show ¬ a = 0 by intro z; subst z; cases hc)]; rw [isA_of hc]) (RunO_bck rfl)
theorem R_baload {a n : Nat} {i : Int} (hm : mCode mi = cc) (hd : decode cc pc = .ok (.baload, 1)) (hc : kOf h.1 a = some (9, n)) : Run sc mi pc lv (I i :: Rf a :: st) h = bck 0 ((n : Int) - 1) i (Run sc mi (pc + 1) lv (I (h.2.2 a i.toNat) :: st) h) := by
  subst hm
  refine Run_O (o := bck 0 ((n : Int) - 1) i (aNext (pc + 1) lv (I (h.2.2 a i.toNat) :: st) h)) (by rw [aS_baload hd]; (try dsimp only [sI, sR]); rw [isA_of hc]) (RunO_bck rfl)
theorem R_caload {a n : Nat} {i : Int} (hm : mCode mi = cc) (hd : decode cc pc = .ok (.caload, 1)) (hc : kOf h.1 a = some (10, n)) : Run sc mi pc lv (I i :: Rf a :: st) h = bck 0 ((n : Int) - 1) i (Run sc mi (pc + 1) lv (I (h.2.2 a i.toNat) :: st) h) := by
  subst hm
  refine Run_O (o := bck 0 ((n : Int) - 1) i (aNext (pc + 1) lv (I (h.2.2 a i.toNat) :: st) h)) (by rw [aS_caload hd]; (try dsimp only [sI, sR]); rw [isA_of hc]) (RunO_bck rfl)
theorem R_script {i : Int} (hm : mCode mi = cc) (hd : decode cc pc = .ok (.iaload, 1))  : Run sc mi pc lv (I i :: Rf 0 :: st) h = bck 0 ((sc.1 : Int) - 1) i (Run sc mi (pc + 1) lv (I (sc.2 i.toNat) :: st) h) := by
  subst hm
  refine Run_O (o := bck 0 ((sc.1 : Int) - 1) i (aNext (pc + 1) lv (I (sc.2 i.toNat) :: st) h)) (by rw [aS_iaload hd]; (try dsimp only [sI, sR]); rw [if_pos rfl]) (RunO_bck rfl)
theorem R_scriptlen  (hm : mCode mi = cc) (hd : decode cc pc = .ok (.arraylength, 1))  : Run sc mi pc lv (Rf 0 :: st) h = Run sc mi (pc + 1) lv (I (sc.1 : Int) :: st) h := by
  subst hm
  refine Run_O (o := aNext (pc + 1) lv (I (sc.1 : Int) :: st) h) (by rw [aS_arraylength hd]; (try dsimp only [sI, sR]); rw [decide_eq_true (show (0 : Nat) = 0 from rfl)]; rfl) rfl
theorem R_aaload {a n : Nat} {i : Int} {r : Nat} (hm : mCode mi = cc) (hd : decode cc pc = .ok (.aaload, 1)) (hc : kOf h.1 a = some (11, n)) (hi : 0 ≤ i ∧ i ≤ (n : Int) - 1) (hv : h.2.1 a i.toNat = r) (hr0 : r ≠ 0) : Run sc mi pc lv (I i :: Rf a :: st) h = Run sc mi (pc + 1) lv (Rf r :: st) h := by
  subst hm
  subst hv
  refine Run_O (o := aNext (pc + 1) lv (Rf (h.2.1 a i.toNat) :: st) h) (by rw [aS_aaload hd]; (try dsimp only [sI, sR]); rw [isA_of hc]; (try dsimp only); rw [bck_pos hi, decide_eq_true hr0]; rfl) rfl
theorem R_iastore {a n : Nat} {i x : Int} (hm : mCode mi = cc) (hd : decode cc pc = .ok (.iastore, 1)) (hc : kOf h.1 a = some (8, n)) : Run sc mi pc lv (I x :: I i :: Rf a :: st) h = bck 0 ((n : Int) - 1) i (bck (-2147483648) 2147483647 x (Run sc mi (pc + 1) lv st (h.1, h.2.1, setO h.2.2 a (upI (h.2.2 a) i.toNat x)))) := by
  subst hm
  refine Run_O (o := bck 0 ((n : Int) - 1) i (bck (-2147483648) 2147483647 x (aNext (pc + 1) lv st (h.1, h.2.1, setO h.2.2 a (upI (h.2.2 a) i.toNat x))))) (by rw [aS_iastore hd]; (try dsimp only [sI, sR]); rw [isA_of hc]) (RunO_bck (RunO_bck rfl))
theorem R_bastore {a n : Nat} {i x : Int} (hm : mCode mi = cc) (hd : decode cc pc = .ok (.bastore, 1)) (hc : kOf h.1 a = some (9, n)) : Run sc mi pc lv (I x :: I i :: Rf a :: st) h = bck 0 ((n : Int) - 1) i (bck 0 1 x (Run sc mi (pc + 1) lv st (h.1, h.2.1, setO h.2.2 a (upI (h.2.2 a) i.toNat x)))) := by
  subst hm
  refine Run_O (o := bck 0 ((n : Int) - 1) i (bck 0 1 x (aNext (pc + 1) lv st (h.1, h.2.1, setO h.2.2 a (upI (h.2.2 a) i.toNat x))))) (by rw [aS_bastore hd]; (try dsimp only [sI, sR]); rw [isA_of hc]) (RunO_bck (RunO_bck rfl))
theorem R_castore {a n : Nat} {i x : Int} (hm : mCode mi = cc) (hd : decode cc pc = .ok (.castore, 1)) (hc : kOf h.1 a = some (10, n)) : Run sc mi pc lv (I x :: I i :: Rf a :: st) h = bck 0 ((n : Int) - 1) i (bck 0 65535 x (Run sc mi (pc + 1) lv st (h.1, h.2.1, setO h.2.2 a (upI (h.2.2 a) i.toNat x)))) := by
  subst hm
  refine Run_O (o := bck 0 ((n : Int) - 1) i (bck 0 65535 x (aNext (pc + 1) lv st (h.1, h.2.1, setO h.2.2 a (upI (h.2.2 a) i.toNat x))))) (by rw [aS_castore hd]; (try dsimp only [sI, sR]); rw [isA_of hc]) (RunO_bck (RunO_bck rfl))
theorem R_aastore {a n v m : Nat} {i : Int} (hm : mCode mi = cc) (hd : decode cc pc = .ok (.aastore, 1)) (hv : kOf h.1 v = some (2, m)) (hc : kOf h.1 a = some (11, n)) : Run sc mi pc lv (Rf v :: I i :: Rf a :: st) h = bck 0 ((n : Int) - 1) i (Run sc mi (pc + 1) lv st (h.1, setR h.2.1 a i.toNat v, h.2.2)) := by
  subst hm
  refine Run_O (o := bck 0 ((n : Int) - 1) i (aNext (pc + 1) lv st (h.1, setR h.2.1 a i.toNat v, h.2.2))) (by rw [aS_aastore hd]; (try dsimp only [sI, sR]); rw [isA_of hv]; (try dsimp only); rw [isA_of hc]) (RunO_bck rfl)
theorem R_new {own i o : Nat} (hm : mCode mi = cc) (hd : decode cc pc = .ok (.new i, 3)) (ho : mOwn mi = own) (hn : alook (nTab own) i = some o) : Run sc mi pc lv st h = Run sc mi (pc + 3) lv (Rf (h.1.length + 1) :: st) (h.1 ++ [(o, cN o)], h.2.1, h.2.2) := by
  subst hm
  refine Run_O (o := aNext (pc + 3) lv (Rf (h.1.length + 1) :: st) (h.1 ++ [(o, cN o)], h.2.1, h.2.2)) (by rw [aS_new hd]; (try dsimp only); rw [ho, hn]; rfl) rfl
theorem R_newa_int {n : Int} (hm : mCode mi = cc) (hd : decode cc pc = .ok (.newarray .int, 2)) (hn : 0 ≤ n ∧ n ≤ 100000) : Run sc mi pc lv (I n :: st) h = Run sc mi (pc + 2) lv (Rf (h.1.length + 1) :: st) (h.1 ++ [(8, n.toNat)], h.2.1, h.2.2) := by
  subst hm
  refine Run_O (o := aNext (pc + 2) lv (Rf (h.1.length + 1) :: st) (h.1 ++ [(8, n.toNat)], h.2.1, h.2.2)) (by rw [aS_newarray_int hd]; (try dsimp only [sI]); rw [bck_pos hn]) rfl
theorem R_newa_boolean {n : Int} (hm : mCode mi = cc) (hd : decode cc pc = .ok (.newarray .boolean, 2)) (hn : 0 ≤ n ∧ n ≤ 100000) : Run sc mi pc lv (I n :: st) h = Run sc mi (pc + 2) lv (Rf (h.1.length + 1) :: st) (h.1 ++ [(9, n.toNat)], h.2.1, h.2.2) := by
  subst hm
  refine Run_O (o := aNext (pc + 2) lv (Rf (h.1.length + 1) :: st) (h.1 ++ [(9, n.toNat)], h.2.1, h.2.2)) (by rw [aS_newarray_boolean hd]; (try dsimp only [sI]); rw [bck_pos hn]) rfl
theorem R_newa_char {n : Int} (hm : mCode mi = cc) (hd : decode cc pc = .ok (.newarray .char, 2)) (hn : 0 ≤ n ∧ n ≤ 100000) : Run sc mi pc lv (I n :: st) h = Run sc mi (pc + 2) lv (Rf (h.1.length + 1) :: st) (h.1 ++ [(10, n.toNat)], h.2.1, h.2.2) := by
  subst hm
  refine Run_O (o := aNext (pc + 2) lv (Rf (h.1.length + 1) :: st) (h.1 ++ [(10, n.toNat)], h.2.1, h.2.2)) (by rw [aS_newarray_char hd]; (try dsimp only [sI]); rw [bck_pos hn]) rfl
theorem R_anew {own i : Nat} {n : Int} (hm : mCode mi = cc) (hd : decode cc pc = .ok (.anewarray i, 3)) (ho : mOwn mi = own) (ha : alook (nTab own) i = some 2) (hn : 0 ≤ n ∧ n ≤ 100000) : Run sc mi pc lv (I n :: st) h = Run sc mi (pc + 3) lv (Rf (h.1.length + 1) :: st) (h.1 ++ [(11, n.toNat)], h.2.1, h.2.2) := by
  subst hm
  refine Run_O (o := aNext (pc + 3) lv (Rf (h.1.length + 1) :: st) (h.1 ++ [(11, n.toNat)], h.2.1, h.2.2)) (by rw [aS_anewarray hd]; (try dsimp only); rw [ho, decide_eq_true ha]; (try dsimp only [gd, sI]); rw [bck_pos hn]) rfl
theorem R_ireturn {x : Int} (hm : mCode mi = cc) (hd : decode cc pc = .ok (.ireturn, 1)) (hr : mRk mi = 1) : Run sc mi pc lv [I x] h = some (some (I x), h) := by
  subst hm
  refine Run_O (o := some (.inr (.inr (some (I x))))) (by rw [aS_ireturn hd]; (try dsimp only); rw [decide_eq_true (Or.inl hr)]; rfl) rfl
theorem R_ireturnZ {x : Int} (hm : mCode mi = cc) (hd : decode cc pc = .ok (.ireturn, 1)) (hr : mRk mi = 2) : Run sc mi pc lv [I x] h = bck 0 1 x (some (some (I x), h)) := by
  subst hm
  by_cases c : 0 ≤ x ∧ x ≤ 1
  · rw [bck_pos c]
    exact Run_O (o := some (.inr (.inr (some (I x))))) (by rw [aS_ireturn hd]; (try dsimp only); rw [decide_eq_true (Or.inr (Or.inl ⟨hr, c⟩))]; rfl) rfl
  · refine Run_O (o := none) (by rw [aS_ireturn hd]; (try dsimp only); rw [decide_eq_false (fun z => by rcases z with z | z | z <;> omega)]; rfl) ?_
    exact if_neg c
theorem R_ireturnC {x : Int} (hm : mCode mi = cc) (hd : decode cc pc = .ok (.ireturn, 1)) (hr : mRk mi = 3) : Run sc mi pc lv [I x] h = bck 0 65535 x (some (some (I x), h)) := by
  subst hm
  by_cases c : 0 ≤ x ∧ x ≤ 65535
  · rw [bck_pos c]
    exact Run_O (o := some (.inr (.inr (some (I x))))) (by rw [aS_ireturn hd]; (try dsimp only); rw [decide_eq_true (Or.inr (Or.inr ⟨hr, c⟩))]; rfl) rfl
  · refine Run_O (o := none) (by rw [aS_ireturn hd]; (try dsimp only); rw [decide_eq_false (fun z => by rcases z with z | z | z <;> omega)]; rfl) ?_
    exact if_neg c
theorem R_areturn {a : Nat} (hm : mCode mi = cc) (hd : decode cc pc = .ok (.areturn, 1)) (hr : mRk mi = 4) (ha : a ≠ 0) : Run sc mi pc lv [Rf a] h = some (some (Rf a), h) := by
  subst hm
  refine Run_O (o := some (.inr (.inr (some (Rf a))))) (by rw [aS_areturn hd]; (try dsimp only); rw [decide_eq_true (show mRk mi = 4 ∧ a ≠ 0 from ⟨hr, ha⟩)]; rfl) rfl
theorem R_return  (hm : mCode mi = cc) (hd : decode cc pc = .ok (.return_, 1)) (hr : mRk mi = 0) : Run sc mi pc lv [] h = some (none, h) := by
  subst hm
  refine Run_O (o := some (.inr (.inr none))) (by rw [aS_return_ hd]; (try dsimp only); rw [decide_eq_true hr]; rfl) rfl
theorem R_invV {own i t n b m : Nat} {rest : List AV} {lv2 : LV} (hm : mCode mi = cc) (hd : decode cc pc = .ok (.invokevirtual i, 3)) (ho : mOwn mi = own) (hc : alook (cTab own) i = some (t, n, 0)) (hf : aFit mi t) (hdr : st.drop n = Rf b :: rest) (hk : kOf h.1 b = some (mOwn t, m)) (he : ent (mMaxL t) (Rf b :: (st.take n).reverse) = lv2) (hl : n + 1 ≤ mMaxL t ∧ rest.length ≤ 8) : Run sc mi pc lv st h = aBind (Run sc t 0 lv2 [] h) (fun v h2 => Run sc mi (pc + 3) lv (pushR v rest) h2) := by
  subst hm
  subst he
  have hn : n < st.length := by
    rcases Nat.lt_or_ge n st.length with z | z
    · exact z
    · rw [List.drop_eq_nil_of_le z] at hdr; cases hdr
  refine Run_O (o := some (.inr (.inl (t, ent (mMaxL t) (Rf b :: (st.take n).reverse), pc + 3, rest)))) (by rw [aS_invokevirtual hd]; (try dsimp only); rw [ho, hc]; (try dsimp only [gO]); rw [decide_eq_true (show (0 : Nat) = 0 ∧ aFit mi t ∧ n < st.length from ⟨rfl, hf, hn⟩)]; (try dsimp only [gd]); rw [hdr]; (try dsimp only [sR]); rw [isA_of hk]; unfold aCall; rw [decide_eq_true (by rw [List.length_cons, List.length_reverse, List.length_take]; omega)]; rfl) rfl
theorem R_invS {own i t n kd : Nat} {rest : List AV} {lv2 : LV} (hm : mCode mi = cc) (hd : decode cc pc = .ok (.invokestatic i, 3)) (ho : mOwn mi = own) (hc : alook (cTab own) i = some (t, n, kd)) (hkd : kd = 1 ∨ kd = 2) (hf : aFit mi t) (hn : n ≤ st.length) (hdr : st.drop n = rest) (he : ent (mMaxL t) ((st.take n).reverse) = lv2) (hl : n ≤ mMaxL t ∧ rest.length ≤ 8) : Run sc mi pc lv st h = aBind (Run sc t 0 lv2 [] h) (fun v h2 => Run sc mi (pc + 3) lv (pushR v rest) h2) := by
  subst hm
  subst he hdr
  refine Run_O (o := some (.inr (.inl (t, ent (mMaxL t) ((st.take n).reverse), pc + 3, st.drop n)))) (by rw [aS_invokestatic hd]; (try dsimp only); rw [ho, hc]; (try dsimp only [gO]); rcases hkd with rfl | rfl <;> ((try dsimp only); rw [decide_eq_true (show aFit mi t ∧ n ≤ st.length from ⟨hf, hn⟩)]; (try dsimp only [gd]); unfold aCall; rw [decide_eq_true (by rw [List.length_reverse, List.length_take]; omega)]; rfl)) rfl
theorem R_invI {own i t n kd b : Nat} {rest : List AV} {lv2 : LV} (hm : mCode mi = cc) (hd : decode cc pc = .ok (.invokespecial i, 3)) (ho : mOwn mi = own) (hc : alook (cTab own) i = some (t, n, kd)) (hkd : kd = 3 ∨ kd = 4) (hf : aFit mi t) (hdr : st.drop n = Rf b :: rest) (hb : b ≠ 0) (he : ent (mMaxL t) (Rf b :: (st.take n).reverse) = lv2) (hl : n + 1 ≤ mMaxL t ∧ rest.length ≤ 8) : Run sc mi pc lv st h = aBind (Run sc t 0 lv2 [] h) (fun v h2 => Run sc mi (pc + 3) lv (pushR v rest) h2) := by
  subst hm
  subst he
  have hn : n < st.length := by
    rcases Nat.lt_or_ge n st.length with z | z
    · exact z
    · rw [List.drop_eq_nil_of_le z] at hdr; cases hdr
  refine Run_O (o := some (.inr (.inl (t, ent (mMaxL t) (Rf b :: (st.take n).reverse), pc + 3, rest)))) (by rw [aS_invokespecial hd]; (try dsimp only); rw [ho, hc]; (try dsimp only [gO]); rcases hkd with rfl | rfl <;> ((try dsimp only); rw [decide_eq_true (show aFit mi t ∧ n < st.length from ⟨hf, hn⟩)]; (try dsimp only [gd]); rw [hdr]; (try dsimp only [sR]); rw [decide_eq_true hb]; (try dsimp only [gd]); unfold aCall; rw [decide_eq_true (by rw [List.length_cons, List.length_reverse, List.length_take]; omega)]; rfl)) rfl
theorem R_objI {own i t n a : Nat} (hm : mCode mi = cc) (hd : decode cc pc = .ok (.invokespecial i, 3)) (ho : mOwn mi = own) (hc : alook (cTab own) i = some (t, n, 5)) (hf : 1 ≤ mFr mi ∧ st.length + 12 ≤ mLo mi ∧ a ≠ 0) : Run sc mi pc lv (Rf a :: st) h = Run sc mi (pc + 3) lv st h := by
  subst hm
  refine Run_O (o := aNext (pc + 3) lv st h) (by rw [aS_invokespecial hd]; (try dsimp only); rw [ho, hc]; (try dsimp only [gO, sR]); rw [decide_eq_true hf]; rfl) rfl
theorem R_max {own i t n : Nat} {x y : Int} (hm : mCode mi = cc) (hd : decode cc pc = .ok (.invokestatic i, 3)) (ho : mOwn mi = own) (hc : alook (cTab own) i = some (t, n, 6)) (hf : 1 ≤ mFr mi ∧ st.length + 13 ≤ mLo mi) : Run sc mi pc lv (I y :: I x :: st) h = Run sc mi (pc + 3) lv (I (if x < y then y else x) :: st) h := by
  subst hm
  refine Run_O (o := aNext (pc + 3) lv (I (if x < y then y else x) :: st) h) (by rw [aS_invokestatic hd]; (try dsimp only); rw [ho, hc]; (try dsimp only [gO, sI]); rw [decide_eq_true hf]; rfl) rfl
theorem R_min {own i t n : Nat} {x y : Int} (hm : mCode mi = cc) (hd : decode cc pc = .ok (.invokestatic i, 3)) (ho : mOwn mi = own) (hc : alook (cTab own) i = some (t, n, 7)) (hf : 1 ≤ mFr mi ∧ st.length + 13 ≤ mLo mi) : Run sc mi pc lv (I y :: I x :: st) h = Run sc mi (pc + 3) lv (I (if y < x then y else x) :: st) h := by
  subst hm
  refine Run_O (o := aNext (pc + 3) lv (I (if y < x then y else x) :: st) h) (by rw [aS_invokestatic hd]; (try dsimp only); rw [ho, hc]; (try dsimp only [gO, sI]); rw [decide_eq_true hf]; rfl) rfl
theorem R_abs {own i t n : Nat} {x : Int} (hm : mCode mi = cc) (hd : decode cc pc = .ok (.invokestatic i, 3)) (ho : mOwn mi = own) (hc : alook (cTab own) i = some (t, n, 8)) (hf : 1 ≤ mFr mi ∧ st.length + 13 ≤ mLo mi) : Run sc mi pc lv (I x :: st) h = bck (-2147483647) 2147483647 x (Run sc mi (pc + 3) lv (I (if 0 ≤ x then x else 0 - x) :: st) h) := by
  subst hm
  refine Run_O (o := bck (-2147483647) 2147483647 x (aNext (pc + 3) lv (I (if 0 ≤ x then x else 0 - x) :: st) h)) (by rw [aS_invokestatic hd]; (try dsimp only); rw [ho, hc]; (try dsimp only [gO, sI]); rw [decide_eq_true hf]; rfl) (RunO_bck rfl)
end RUNS
