/-! a call that makes nothing answers the same where the heap has more cells behind -/
def exH (h : AH) (ex : List (Nat × Nat)) : AH := (h.1 ++ ex, h.2)
def LE (ex : List (Nat × Nat)) (n : Nat) (a b : Option AT) : Prop := match a with
  | none => True
  | some (.inl q) => q.2.2.2.1.length = n → b = some (.inl (q.1, q.2.1, q.2.2.1, exH q.2.2.2 ex))
  | some (.inr r) => b = some (.inr r)
section FRAME
variable {ex : List (Nat × Nat)} {n : Nat}
theorem LE_none {b : Option AT} : LE ex n none b := trivial
theorem LE_bck {lo hi x : Int} {a b : Option AT} (h : LE ex n a b) : LE ex n (bck lo hi x a) (bck lo hi x b) := by
  unfold bck
  by_cases c : lo ≤ x ∧ x ≤ hi
  · rw [if_pos c, if_pos c]; exact h
  · rw [if_neg c]; exact trivial
theorem LE_chk {x : Int} {a b : Option AT} (h : LE ex n a b) : LE ex n (chk x a) (chk x b) := LE_bck h
theorem LE_gd {c : Bool} {a b : Option AT} (h : LE ex n a b) : LE ex n (gd c a) (gd c b) := by
  cases c with
  | true => exact h
  | false => exact trivial
theorem LE_ite {c : Prop} [Decidable c] {a a' b b' : Option AT} (h1 : LE ex n a b) (h2 : LE ex n a' b') : LE ex n (if c then a else a') (if c then b else b') := by
  by_cases q : c
  · rw [if_pos q, if_pos q]; exact h1
  · rw [if_neg q, if_neg q]; exact h2
theorem LE_gI {lv : LV} {i : Nat} {K K' : Int → Option AT} (h : ∀ x, LE ex n (K x) (K' x)) : LE ex n (gI lv i K) (gI lv i K') := by
  unfold gI
  cases lv[i]? with
  | none => exact trivial
  | some v => cases v with
    | none => exact trivial
    | some w => cases w with
      | inl x => exact h x
      | inr _ => exact trivial
theorem LE_gR {lv : LV} {i : Nat} {K K' : Nat → Option AT} (h : ∀ x, LE ex n (K x) (K' x)) : LE ex n (gR lv i K) (gR lv i K') := by
  unfold gR
  cases lv[i]? with
  | none => exact trivial
  | some v => cases v with
    | none => exact trivial
    | some w => cases w with
      | inl _ => exact trivial
      | inr x => exact h x
theorem LE_sI {st : List AV} {K K' : Int → List AV → Option AT} (h : ∀ x s, LE ex n (K x s) (K' x s)) : LE ex n (sI st K) (sI st K') := by
  unfold sI
  cases st with
  | nil => exact trivial
  | cons w s => cases w with
    | inl x => exact h x s
    | inr _ => exact trivial
theorem LE_sR {st : List AV} {K K' : Nat → List AV → Option AT} (h : ∀ x s, LE ex n (K x s) (K' x s)) : LE ex n (sR st K) (sR st K') := by
  unfold sR
  cases st with
  | nil => exact trivial
  | cons w s => cases w with
    | inl _ => exact trivial
    | inr x => exact h x s
theorem LE_gO {β : Type} {o : Option β} {K K' : β → Option AT} (h : ∀ x, LE ex n (K x) (K' x)) : LE ex n (gO o K) (gO o K') := by
  cases o with
  | none => exact trivial
  | some x => exact h x
theorem LE_jmp {pc : Nat} {off : Int} {K K' : Nat → Option AT} (h : ∀ x, LE ex n (K x) (K' x)) : LE ex n (jmp pc off K) (jmp pc off K') := by
  unfold jmp
  exact LE_ite (h _) trivial
theorem LE_isA {h : AH} {a k : Nat} {K K' : Nat → Option AT} (hk : ∀ x, LE ex n (K x) (K' x)) : LE ex n (isA h a k K) (isA (exH h ex) a k K') := by
  unfold isA
  cases a with
  | zero => exact trivial
  | succ b =>
    dsimp only
    cases e : h.1[b]? with
    | none => exact trivial
    | some q =>
      have hb := (List.getElem?_eq_some_iff.mp e).1
      have e2 : (exH h ex).1[b]? = some q := by
        show (h.1 ++ ex)[b]? = some q
        rw [List.getElem?_append_left hb, e]
      rw [e2]
      obtain ⟨k', m⟩ := q
      exact LE_ite (hk m) trivial
theorem LE_nx {pc : Nat} {lv : LV} {st : List AV} {h h' : AH} (e : h.1.length = n → h' = exH h ex) : LE ex n (aNext pc lv st h) (aNext pc lv st h') := fun z => by rw [e z]; rfl
theorem LE_no {pc : Nat} {lv : LV} {st : List AV} {h : AH} {b : Option AT} (e : h.1.length ≠ n) : LE ex n (aNext pc lv st h) b := fun z => absurd z e
theorem LE_call {t pc : Nat} {vs rest : List AV} : LE ex n (aCall t vs pc rest) (aCall t vs pc rest) := LE_gd rfl
theorem LE_r {r : AC ⊕ Option AV} : LE ex n (some (.inr r)) (some (.inr r)) := rfl
end FRAME
set_option maxHeartbeats 4000000 in
theorem aStep_LE {sc : Nat × (Nat → Int)} {ex : List (Nat × Nat)} {mi pc : Nat} {lv : LV} {st : List AV} {h : AH} : LE ex h.1.length (aStep sc mi pc lv st h) (aStep sc mi pc lv st (exH h ex)) := by
  unfold aStep
  split
  all_goals first
    | exact LE_none
    | ((try dsimp only); repeat' (first | exact LE_none | exact LE_r | exact LE_call | exact LE_nx (fun _ => rfl) | exact LE_no (by simp) | apply LE_bck | apply LE_chk | apply LE_gd | (apply LE_gI; intro x) | (apply LE_gR; intro x) | (apply LE_sI; intro x s) | (apply LE_sR; intro x s) | (apply LE_gO; intro x) | (apply LE_jmp; intro x) | (apply LE_isA; intro x) | apply LE_ite | split))
theorem aX_ex {sc : Nat × (Nat → Int)} {ex : List (Nat × Nat)} : ∀ (n mi pc : Nat) (lv : LV) (st : List AV) (h : AH) (v : Option AV) (h' : AH), aX sc n mi pc lv st h = some (v, h') → h'.1.length = h.1.length → aX sc n mi pc lv st (exH h ex) = some (v, exH h' ex) := by
  intro n
  induction n with
  | zero => intro mi pc lv st h v h' e; cases e
  | succ n ih =>
    intro mi pc lv st h v h' e hl
    have L := aStep_LE (sc := sc) (ex := ex) (mi := mi) (pc := pc) (lv := lv) (st := st) (h := h)
    unfold aX at e ⊢
    cases hs : aStep sc mi pc lv st h with
    | none => rw [hs] at e; cases e
    | some t =>
      rw [hs] at e L
      rcases t with q | q | w
      · dsimp only at e
        obtain ⟨t1, e1⟩ := aX_pre _ _ _ _ _ _ _ _ e
        obtain ⟨t2, e2⟩ := aStep_pre hs
        have l1 : q.2.2.2.1.length = h.1.length := by
          have a := congrArg List.length e1
          have b := congrArg List.length e2
          rw [List.length_append] at a b
          omega
        have l2 := L l1
        rw [l2]
        exact ih _ _ _ _ _ _ _ e (by rw [hl, l1])
      · have l2 : aStep sc mi pc lv st (exH h ex) = some (.inr (.inl q)) := L
        rw [l2]
        dsimp only at e ⊢
        cases hc : aX sc n q.1 0 q.2.1 [] h with
        | none => rw [hc] at e; cases e
        | some r =>
          obtain ⟨v1, h1⟩ := r
          rw [hc] at e
          dsimp only at e
          obtain ⟨t1, e1⟩ := aX_pre _ _ _ _ _ _ _ _ e
          obtain ⟨t2, e2⟩ := aX_pre _ _ _ _ _ _ _ _ hc
          have l1 : h1.1.length = h.1.length := by
            have a := congrArg List.length e1
            have b := congrArg List.length e2
            rw [List.length_append] at a b
            omega
          rw [ih _ _ _ _ _ _ _ hc l1]
          exact ih _ _ _ _ _ _ _ e (by rw [hl, l1])
      · have l2 : aStep sc mi pc lv st (exH h ex) = some (.inr (.inr w)) := L
        rw [l2]
        dsimp only at e ⊢
        cases e
        rfl
/-- the same of a whole call, on the class's heap -/
theorem Run_ex {sc : Nat × (Nat → Int)} {cs : List (Nat × Nat)} {mi pc : Nat} {lv : LV} {st : List AV} {iv iv2 : Nat → Nat → Int} {v : Option AV} (e : Run sc mi pc lv st (hp iv) = some (v, hp iv2)) : Run sc mi pc lv st (hq cs iv) = some (v, hq cs iv2) := by
  obtain ⟨n, hn⟩ := Run_iff.mp e
  exact Run_iff.mpr ⟨n, aX_ex n mi pc lv st (hp iv) v (hp iv2) hn rfl⟩
theorem R_newX {sc : Nat × (Nat → Int)} {mi pc : Nat} {lv : LV} {st : List AV} {cc : ByteArray} {cs : List (Nat × Nat)} {iv : Nat → Nat → Int} {n : Int} {m : Nat} (hm : mCode mi = cc) (hd : decode cc pc = .ok (.newarray .int, 2)) (hn : 0 ≤ n ∧ n ≤ 100000) (hz : n.toNat = m) : Run sc mi pc lv (I n :: st) (hq cs iv) = Run sc mi (pc + 2) lv (Rf (52 + cs.length) :: st) (hq (cs ++ [(8, m)]) iv) := by
  subst hz
  refine (R_newa_int hm hd hn).trans ?_
  have e1 : (hq cs iv).1.length + 1 = 52 + cs.length := by
    show (CSL ++ cs).length + 1 = _
    rw [List.length_append, show CSL.length = 51 from rfl]; omega
  have e2 : ((hq cs iv).1 ++ [(8, n.toNat)], (hq cs iv).2.1, (hq cs iv).2.2) = hq (cs ++ [(8, n.toNat)]) iv := by
    show (CSL ++ cs ++ _, _, _) = (CSL ++ (cs ++ _), _, _)
    rw [List.append_assoc]
    rfl
  rw [e1, e2]
