/-- the room of a call -/
abbrev aFit (mi t : Nat) : Prop := mFr t + 1 ≤ mFr mi ∧ 8 + (mMaxL t + 11) + mLo t ≤ mLo mi
def aCall (t : Nat) (vs : List AV) (pc : Nat) (rest : List AV) : Option AT := gd (decide (vs.length ≤ mMaxL t ∧ rest.length ≤ 8)) (some (.inr (.inl (t, ent (mMaxL t) vs, pc, rest))))
/-- one instruction -/
def aStep (sc : Nat × (Nat → Int)) (mi pc : Nat) (lv : LV) (st : List AV) (h : AH) : Option AT := match decode (mCode mi) pc with
  | .ok (.iconst n, 1) => bck (-1) 5 n (aNext (pc + 1) lv (.inl n :: st) h)
  | .ok (.bipush n, 2) => bck (-128) 127 n (aNext (pc + 2) lv (.inl n :: st) h)
  | .ok (.sipush n, 3) => bck (-32768) 32767 n (aNext (pc + 3) lv (.inl n :: st) h)
  | .ok (.ldc i, 2) => gO (alook (kTab (mOwn mi)) i) fun n => aNext (pc + 2) lv (.inl n :: st) h
  | .ok (.iload_n k, 1) => gI lv k.val fun x => aNext (pc + 1) lv (.inl x :: st) h
  | .ok (.iload i, 2) => gI lv i fun x => aNext (pc + 2) lv (.inl x :: st) h
  | .ok (.aload_n k, 1) => gR lv k.val fun x => aNext (pc + 1) lv (.inr x :: st) h
  | .ok (.aload i, 2) => gR lv i fun x => aNext (pc + 2) lv (.inr x :: st) h
  | .ok (.istore_n k, 1) => sI st fun x st => gd (decide (k.val < lv.length)) (aNext (pc + 1) (lv.set k.val (some (.inl x))) st h)
  | .ok (.istore i, 2) => sI st fun x st => gd (decide (i < lv.length)) (aNext (pc + 2) (lv.set i (some (.inl x))) st h)
  | .ok (.astore_n k, 1) => sR st fun x st => gd (decide (k.val < lv.length)) (aNext (pc + 1) (lv.set k.val (some (.inr x))) st h)
  | .ok (.astore i, 2) => sR st fun x st => gd (decide (i < lv.length)) (aNext (pc + 2) (lv.set i (some (.inr x))) st h)
  | .ok (.iinc i n, 3) => gI lv i fun x => gd (decide (i < lv.length)) (chk (x + n) (aNext (pc + 3) (lv.set i (some (.inl (x + n)))) st h))
  | .ok (.iadd, 1) => sI st fun y st => sI st fun x st => chk (x + y) (aNext (pc + 1) lv (.inl (x + y) :: st) h)
  | .ok (.isub, 1) => sI st fun y st => sI st fun x st => chk (x - y) (aNext (pc + 1) lv (.inl (x - y) :: st) h)
  | .ok (.imul, 1) => sI st fun y st => sI st fun x st => chk (x * y) (aNext (pc + 1) lv (.inl (x * y) :: st) h)
  | .ok (.idiv, 1) => sI st fun y st => sI st fun x st => bck 1 2147483647 y (bck 0 2147483647 x (aNext (pc + 1) lv (.inl (x / y) :: st) h))
  | .ok (.irem, 1) => sI st fun y st => sI st fun x st => bck 1 2147483647 y (bck 0 2147483647 x (aNext (pc + 1) lv (.inl (x % y) :: st) h))
  | .ok (.ineg, 1) => sI st fun x st => chk (-x) (aNext (pc + 1) lv (.inl (-x) :: st) h)
  | .ok (.iand, 1) => sI st fun y st => sI st fun x st => gd (decide (y = 1 ∨ y = 3 ∨ y = 31 ∨ y = 2147483647)) (aNext (pc + 1) lv (.inl (x % (y + 1)) :: st) h)
  | .ok (.ior, 1) => sI st fun y st => sI st fun x st => bck 0 127 y (bck 0 127 x (aNext (pc + 1) lv (.inl ((x.toNat ||| y.toNat : Nat) : Int) :: st) h))
  | .ok (.ishl, 1) => sI st fun y st => sI st fun x st => gd (decide (x = 1)) (bck 0 6 y (aNext (pc + 1) lv (.inl ((2 ^ y.toNat : Nat) : Int) :: st) h))
  | .ok (.ishr, 1) => sI st fun y st => sI st fun x st => bck 0 31 y (aNext (pc + 1) lv (.inl (x / ((2 ^ y.toNat : Nat) : Int)) :: st) h)
  | .ok (.i2c, 1) => sI st fun x st => aNext (pc + 1) lv (.inl (x % 65536) :: st) h
  | .ok (.dup, 1) => match st with | v :: st => aNext (pc + 1) lv (v :: v :: st) h | _ => none
  | .ok (.pop, 1) => match st with | _ :: st => aNext (pc + 1) lv st h | _ => none
  | .ok (.dup2, 1) => match st with | v :: w :: st => aNext (pc + 1) lv (v :: w :: v :: w :: st) h | _ => none
  | .ok (.goto o, 3) => jmp pc o fun t => aNext t lv st h
  | .ok (.ifCond c o, 3) => sI st fun x st => jmp pc o fun t => if cmpB c x 0 = true then aNext t lv st h else aNext (pc + 3) lv st h
  | .ok (.if_icmp c o, 3) => sI st fun y st => sI st fun x st => jmp pc o fun t => if cmpB c x y = true then aNext t lv st h else aNext (pc + 3) lv st h
  | .ok (.tableswitch d lo hi os, _) => sI st fun x st => if x < lo ∨ hi < x then jmp pc d fun t => aNext t lv st h else gO os[(x - lo).toNat]? fun o => jmp pc o fun t => aNext t lv st h
  | .ok (.getfield i, 3) => gO (alook (fTab (mOwn mi)) i) fun q => sR st fun a st => isA h a q.1 fun _ => if fRef q.1 q.2 = true then gd (decide (h.2.1 a q.2 ≠ 0)) (aNext (pc + 3) lv (.inr (h.2.1 a q.2) :: st) h) else aNext (pc + 3) lv (.inl (h.2.2 a q.2) :: st) h
  | .ok (.putfield i, 3) => gO (alook (fTab (mOwn mi)) i) fun q => gd (!fFin q.1 q.2 || (mIni mi && decide (mOwn mi = q.1))) (if fRef q.1 q.2 = true then sR st fun v st => sR st fun a st => gd (decide (v ≠ 0)) (isA h a q.1 fun _ => aNext (pc + 3) lv st (h.1, setR h.2.1 a q.2 v, h.2.2)) else sI st fun x st => sR st fun a st => bck (fLo q.1 q.2) (fHi q.1 q.2) x (isA h a q.1 fun _ => aNext (pc + 3) lv st (h.1, h.2.1, setO h.2.2 a (upI (h.2.2 a) q.2 x))))
  | .ok (.iaload, 1) => sI st fun i st => sR st fun a st => if a = 0 then bck 0 ((sc.1 : Int) - 1) i (aNext (pc + 1) lv (.inl (sc.2 i.toNat) :: st) h) else isA h a 8 fun n => bck 0 ((n : Int) - 1) i (aNext (pc + 1) lv (.inl (h.2.2 a i.toNat) :: st) h)
  | .ok (.baload, 1) => sI st fun i st => sR st fun a st => isA h a 9 fun n => bck 0 ((n : Int) - 1) i (aNext (pc + 1) lv (.inl (h.2.2 a i.toNat) :: st) h)
  | .ok (.caload, 1) => sI st fun i st => sR st fun a st => isA h a 10 fun n => bck 0 ((n : Int) - 1) i (aNext (pc + 1) lv (.inl (h.2.2 a i.toNat) :: st) h)
  | .ok (.aaload, 1) => sI st fun i st => sR st fun a st => isA h a 11 fun n => bck 0 ((n : Int) - 1) i (gd (decide (h.2.1 a i.toNat ≠ 0)) (aNext (pc + 1) lv (.inr (h.2.1 a i.toNat) :: st) h))
  | .ok (.iastore, 1) => sI st fun x st => sI st fun i st => sR st fun a st => isA h a 8 fun n => bck 0 ((n : Int) - 1) i (bck (-2147483648) 2147483647 x (aNext (pc + 1) lv st (h.1, h.2.1, setO h.2.2 a (upI (h.2.2 a) i.toNat x))))
  | .ok (.bastore, 1) => sI st fun x st => sI st fun i st => sR st fun a st => isA h a 9 fun n => bck 0 ((n : Int) - 1) i (bck 0 1 x (aNext (pc + 1) lv st (h.1, h.2.1, setO h.2.2 a (upI (h.2.2 a) i.toNat x))))
  | .ok (.castore, 1) => sI st fun x st => sI st fun i st => sR st fun a st => isA h a 10 fun n => bck 0 ((n : Int) - 1) i (bck 0 65535 x (aNext (pc + 1) lv st (h.1, h.2.1, setO h.2.2 a (upI (h.2.2 a) i.toNat x))))
  | .ok (.aastore, 1) => sR st fun v st => sI st fun i st => sR st fun a st => isA h v 2 fun _ => isA h a 11 fun n => bck 0 ((n : Int) - 1) i (aNext (pc + 1) lv st (h.1, setR h.2.1 a i.toNat v, h.2.2))
  | .ok (.arraylength, 1) => sR st fun a st => gd (decide (a = 0)) (aNext (pc + 1) lv (.inl (sc.1 : Int) :: st) h)
  | .ok (.new i, 3) => gO (alook (nTab (mOwn mi)) i) fun o => aNext (pc + 3) lv (.inr (h.1.length + 1) :: st) (h.1 ++ [(o, cN o)], h.2.1, h.2.2)
  | .ok (.newarray .int, 2) => sI st fun n st => bck 0 100000 n (aNext (pc + 2) lv (.inr (h.1.length + 1) :: st) (h.1 ++ [(8, n.toNat)], h.2.1, h.2.2))
  | .ok (.newarray .boolean, 2) => sI st fun n st => bck 0 100000 n (aNext (pc + 2) lv (.inr (h.1.length + 1) :: st) (h.1 ++ [(9, n.toNat)], h.2.1, h.2.2))
  | .ok (.newarray .char, 2) => sI st fun n st => bck 0 100000 n (aNext (pc + 2) lv (.inr (h.1.length + 1) :: st) (h.1 ++ [(10, n.toNat)], h.2.1, h.2.2))
  | .ok (.anewarray i, 3) => gd (decide (alook (nTab (mOwn mi)) i = some 2)) (sI st fun n st => bck 0 100000 n (aNext (pc + 3) lv (.inr (h.1.length + 1) :: st) (h.1 ++ [(11, n.toNat)], h.2.1, h.2.2)))
  | .ok (.ireturn, 1) => match st with | [.inl x] => gd (decide (mRk mi = 1 ∨ (mRk mi = 2 ∧ 0 ≤ x ∧ x ≤ 1) ∨ (mRk mi = 3 ∧ 0 ≤ x ∧ x ≤ 65535))) (some (.inr (.inr (some (.inl x))))) | _ => none
  | .ok (.areturn, 1) => match st with | [.inr a] => gd (decide (mRk mi = 4 ∧ a ≠ 0)) (some (.inr (.inr (some (.inr a))))) | _ => none
  | .ok (.return_, 1) => match st with | [] => gd (decide (mRk mi = 0)) (some (.inr (.inr none))) | _ => none
  | .ok (.invokevirtual i, 3) => gO (alook (cTab (mOwn mi)) i) fun q => gd (decide (q.2.2 = 0 ∧ aFit mi q.1 ∧ q.2.1 < st.length)) (sR (st.drop q.2.1) fun b rest => isA h b (mOwn q.1) fun _ => aCall q.1 (.inr b :: (st.take q.2.1).reverse) (pc + 3) rest)
  | .ok (.invokestatic i, 3) => gO (alook (cTab (mOwn mi)) i) fun q => match q.2.2 with
      | 1 => gd (decide (aFit mi q.1 ∧ q.2.1 ≤ st.length)) (aCall q.1 (st.take q.2.1).reverse (pc + 3) (st.drop q.2.1))
      | 2 => gd (decide (aFit mi q.1 ∧ q.2.1 ≤ st.length)) (aCall q.1 (st.take q.2.1).reverse (pc + 3) (st.drop q.2.1))
      | 6 => sI st fun y st => sI st fun x st => gd (decide (1 ≤ mFr mi ∧ st.length + 13 ≤ mLo mi)) (aNext (pc + 3) lv (.inl (if x < y then y else x) :: st) h)
      | 7 => sI st fun y st => sI st fun x st => gd (decide (1 ≤ mFr mi ∧ st.length + 13 ≤ mLo mi)) (aNext (pc + 3) lv (.inl (if y < x then y else x) :: st) h)
      | 8 => sI st fun x st => gd (decide (1 ≤ mFr mi ∧ st.length + 13 ≤ mLo mi)) (bck (-2147483647) 2147483647 x (aNext (pc + 3) lv (.inl (if 0 ≤ x then x else 0 - x) :: st) h))
      | _ => none
  | .ok (.invokespecial i, 3) => gO (alook (cTab (mOwn mi)) i) fun q => match q.2.2 with
      | 3 => gd (decide (aFit mi q.1 ∧ q.2.1 < st.length)) (sR (st.drop q.2.1) fun b rest => gd (decide (b ≠ 0)) (aCall q.1 (.inr b :: (st.take q.2.1).reverse) (pc + 3) rest))
      | 4 => gd (decide (aFit mi q.1 ∧ q.2.1 < st.length)) (sR (st.drop q.2.1) fun b rest => gd (decide (b ≠ 0)) (aCall q.1 (.inr b :: (st.take q.2.1).reverse) (pc + 3) rest))
      | 5 => sR st fun a st => gd (decide (1 ≤ mFr mi ∧ st.length + 12 ≤ mLo mi ∧ a ≠ 0)) (aNext (pc + 3) lv st h)
      | _ => none
  | _ => none
def aX (sc : Nat × (Nat → Int)) : Nat → Nat → Nat → LV → List AV → AH → Option AR
  | 0, _, _, _, _, _ => none
  | n + 1, mi, pc, lv, st, h => match aStep sc mi pc lv st h with
    | none => none
    | some (.inl q) => aX sc n mi q.1 q.2.1 q.2.2.1 q.2.2.2
    | some (.inr (.inl q)) => match aX sc n q.1 0 q.2.1 [] h with
      | none => none
      | some r => aX sc n mi q.2.2.1 lv (r.1.toList ++ q.2.2.2) r.2
    | some (.inr (.inr v)) => some (v, h)
theorem aX_mono (sc : Nat × (Nat → Int)) : ∀ (n mi pc : Nat) (lv : LV) (st : List AV) (h : AH) (r : AR), aX sc n mi pc lv st h = some r → aX sc (n + 1) mi pc lv st h = some r := by
  intro n
  induction n with
  | zero => intro mi pc lv st h r e; cases e
  | succ n ih =>
    intro mi pc lv st h r e
    unfold aX at e ⊢
    cases hs : aStep sc mi pc lv st h with
    | none => rw [hs] at e; cases e
    | some t =>
      rw [hs] at e
      rcases t with q | q | v
      · exact ih _ _ _ _ _ _ e
      · dsimp only at e ⊢
        cases hc : aX sc n q.1 0 q.2.1 [] h with
        | none => rw [hc] at e; cases e
        | some r1 =>
          rw [hc] at e
          rw [ih _ _ _ _ _ _ hc]
          exact ih _ _ _ _ _ _ e
      · exact e
theorem aX_le (sc : Nat × (Nat → Int)) {n k mi pc : Nat} {lv : LV} {st : List AV} {h : AH} {r : AR} (hnk : n ≤ k) (e : aX sc n mi pc lv st h = some r) : aX sc k mi pc lv st h = some r := by
  induction hnk with
  | refl => exact e
  | step _ ih => exact aX_mono sc _ _ _ _ _ _ _ ih
theorem aX_det (sc : Nat × (Nat → Int)) {n k mi pc : Nat} {lv : LV} {st : List AV} {h : AH} {r r' : AR} (e : aX sc n mi pc lv st h = some r) (e' : aX sc k mi pc lv st h = some r') : r = r' := by
  have h1 := aX_le sc (Nat.le_max_left n k) e
  have h2 := aX_le sc (Nat.le_max_right n k) e'
  exact Option.some.inj (h1.symm.trans h2)
/-- what a method answers from a place, if it ends -/
noncomputable def Run (sc : Nat × (Nat → Int)) (mi pc : Nat) (lv : LV) (st : List AV) (h : AH) : Option AR :=
  @dite _ (∃ r n, aX sc n mi pc lv st h = some r) (Classical.propDecidable _) (fun e => some (Classical.choose e)) (fun _ => none)
theorem Run_iff {sc : Nat × (Nat → Int)} {mi pc : Nat} {lv : LV} {st : List AV} {h : AH} {r : AR} : Run sc mi pc lv st h = some r ↔ ∃ n, aX sc n mi pc lv st h = some r := by
  unfold Run
  by_cases e : ∃ r n, aX sc n mi pc lv st h = some r
  · rw [dif_pos e]
    obtain ⟨n, hn⟩ := Classical.choose_spec e
    constructor
    · intro q; cases q; exact ⟨n, hn⟩
    · rintro ⟨k, hk⟩; rw [aX_det sc hn hk]
  · rw [dif_neg e]
    constructor
    · intro q; cases q
    · rintro ⟨k, hk⟩; exact absurd ⟨r, k, hk⟩ e
theorem opt_ext {α : Type} {a b : Option α} (h : ∀ r, a = some r ↔ b = some r) : a = b := by
  cases a with
  | none => cases b with
    | none => rfl
    | some y => exact absurd ((h y).mpr rfl) (by simp)
  | some x => exact ((h x).mp rfl).symm
theorem Run_next {sc : Nat × (Nat → Int)} {mi pc : Nat} {lv : LV} {st : List AV} {h : AH} {q : AN} (e : aStep sc mi pc lv st h = some (.inl q)) : Run sc mi pc lv st h = Run sc mi q.1 q.2.1 q.2.2.1 q.2.2.2 := by
  refine opt_ext fun r => ?_
  rw [Run_iff, Run_iff]
  constructor
  · rintro ⟨n, hn⟩
    cases n with
    | zero => cases hn
    | succ n => unfold aX at hn; rw [e] at hn; exact ⟨n, hn⟩
  · rintro ⟨n, hn⟩
    exact ⟨n + 1, by unfold aX; rw [e]; exact hn⟩
theorem Run_none {sc : Nat × (Nat → Int)} {mi pc : Nat} {lv : LV} {st : List AV} {h : AH} (e : aStep sc mi pc lv st h = none) : Run sc mi pc lv st h = none := by
  refine opt_ext fun r => ?_
  rw [Run_iff]
  constructor
  · rintro ⟨n, hn⟩
    cases n with
    | zero => cases hn
    | succ n => unfold aX at hn; rw [e] at hn; cases hn
  · intro q; cases q
theorem Run_ret {sc : Nat × (Nat → Int)} {mi pc : Nat} {lv : LV} {st : List AV} {h : AH} {v : Option AV} (e : aStep sc mi pc lv st h = some (.inr (.inr v))) : Run sc mi pc lv st h = some (v, h) :=
  Run_iff.mpr ⟨1, by unfold aX; rw [e]⟩
/-- behind a call -/
def aBind (o : Option AR) (K : Option AV → AH → Option AR) : Option AR := match o with
  | none => none
  | some r => K r.1 r.2
theorem Run_call {sc : Nat × (Nat → Int)} {mi pc : Nat} {lv : LV} {st : List AV} {h : AH} {q : AC} (e : aStep sc mi pc lv st h = some (.inr (.inl q))) : Run sc mi pc lv st h = aBind (Run sc q.1 0 q.2.1 [] h) (fun v h' => Run sc mi q.2.2.1 lv (v.toList ++ q.2.2.2) h') := by
  refine opt_ext fun r => ?_
  rw [Run_iff]
  constructor
  · rintro ⟨n, hn⟩
    cases n with
    | zero => cases hn
    | succ n =>
      unfold aX at hn
      rw [e] at hn
      dsimp only at hn
      cases hc : aX sc n q.1 0 q.2.1 [] h with
      | none => rw [hc] at hn; cases hn
      | some r1 =>
        rw [hc] at hn
        rw [Run_iff.mpr ⟨n, hc⟩]
        exact Run_iff.mpr ⟨n, hn⟩
  · intro hr
    cases hc : Run sc q.1 0 q.2.1 [] h with
    | none => rw [hc] at hr; cases hr
    | some r1 =>
      rw [hc] at hr
      obtain ⟨n1, h1⟩ := Run_iff.mp hc
      obtain ⟨n2, h2⟩ := Run_iff.mp (show Run sc mi q.2.2.1 lv (r1.1.toList ++ q.2.2.2) r1.2 = some r from hr)
      refine ⟨max n1 n2 + 1, ?_⟩
      unfold aX
      rw [e]
      dsimp only
      rw [aX_le sc (Nat.le_max_left n1 n2) h1]
      exact aX_le sc (Nat.le_max_right n1 n2) h2
