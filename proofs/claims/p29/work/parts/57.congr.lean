/-! what the plain functions depend on: runs that there are -/
section CONGR
variable {n : Nat} {X Y X2 Y2 L L2 : Nat → Int} {r t : Int}
def AgX (n : Nat) (X Y X2 Y2 : Nat → Int) : Prop := ∀ i, i < n → X i = X2 i ∧ Y i = Y2 i
theorem wayF_cg (h : AgX n X Y X2 Y2) {a b : Nat} (ha : a < n) (hb : b < n) : wayF X Y a b = wayF X2 Y2 a b := by
  unfold wayF
  rw [(h a ha).1, (h a ha).2, (h b hb).1, (h b hb).2]
theorem cB_cg (h : AgX n X Y X2 Y2) {a b : Int} : cB n X Y r t a b = cB n X2 Y2 r t a b := by
  unfold cB
  by_cases q : (0 ≤ a ∧ a < n) ∧ (0 ≤ b ∧ b < n)
  · rw [if_pos q, if_pos q, wayF_cg h (by omega) (by omega)]
  · rw [if_neg q, if_neg q]
theorem svF_cg (h : AgX n X Y X2 Y2) {O : Nat → Int} {a b : Int} : svF n X Y r t O a b = svF n X2 Y2 r t O a b := by
  unfold svF
  simp only [cB_cg h]
theorem tryM_cg (h : AgX n X Y X2 Y2) {a b : Nat} {s : (Nat → Int) × Int} : tryM n X Y r t a b s = tryM n X2 Y2 r t a b s := by
  unfold tryM
  rw [svF_cg h]
theorem rowM_cg (h : AgX n X Y X2 Y2) {a : Nat} {s : (Nat → Int) × Int} : ∀ b, rowM n X Y r t a s b = rowM n X2 Y2 r t a s b := by
  intro b
  induction b with
  | zero => rfl
  | succ b ih =>
    show tryM n X Y r t a b (rowM n X Y r t a s b) = tryM n X2 Y2 r t a b (rowM n X2 Y2 r t a s b)
    rw [ih, tryM_cg h]
theorem pasM_cg (h : AgX n X Y X2 Y2) {s : (Nat → Int) × Int} : ∀ a, pasM n X Y r t s a = pasM n X2 Y2 r t s a := by
  intro a
  induction a with
  | zero => rfl
  | succ a ih =>
    show rowM n X Y r t a (pasM n X Y r t s a) n = rowM n X2 Y2 r t a (pasM n X2 Y2 r t s a) n
    rw [ih, rowM_cg h]
theorem itM_cg (h : AgX n X Y X2 Y2) {O : Nat → Int} : ∀ k, itM n X Y r t O k = itM n X2 Y2 r t O k := by
  intro k
  induction k with
  | zero => rfl
  | succ k ih =>
    show ((pasM n X Y r t ((itM n X Y r t O k).1, 0) n).1, (itM n X Y r t O k).2 + (pasM n X Y r t ((itM n X Y r t O k).1, 0) n).2) = _
    rw [ih, pasM_cg h]
    rfl
theorem mvN_cg (h : AgX n X Y X2 Y2) {O : Nat → Int} {k : Nat} : mvN n X Y r t O k = mvN n X2 Y2 r t O k := by
  unfold mvN
  rw [itM_cg h, pasM_cg h]
theorem cpF_cg (h : AgX n X Y X2 Y2) {O O2 : Nat → Int} (hO : OrdN n O) (e : ∀ p, p < n → O2 p = O p) {p : Nat} (hpp : p < n) : cpF X Y r t O p = cpF X2 Y2 r t O2 p := by
  unfold cpF
  by_cases q : p = 0
  · rw [if_pos q, if_pos q]
  · have o1 := hO p hpp
    have o2 := hO (p - 1) (by omega)
    rw [if_neg q, if_neg q, e p hpp, e (p - 1) (by omega), wayF_cg h (by omega) (by omega)]
theorem thrF_cg (h : AgX n X Y X2 Y2) (hl : ∀ i, i < n → L i = L2 i) {O O2 : Nat → Int} (hO : OrdN n O) (e : ∀ p, p < n → O2 p = O p) : thrF n X Y L r t O = thrF n X2 Y2 L2 r t O2 := by
  unfold thrF
  rw [sumN_congr (fun p hpp => by rw [hl p hpp, cpF_cg h hO e hpp])]
theorem staF_cg (h : AgX n X Y X2 Y2) {O O2 : Nat → Int} (hO : OrdN n O) (e : ∀ p, p < n → O2 p = O p) : staF n X Y r O = staF n X2 Y2 r O2 := by
  unfold staF
  rw [sumN_congr (fun p hpp => by
    show (if p = 0 then (0 : Int) else if r < wayF X Y (O (p - 1)).toNat (O p).toNat then 1 else 0) = if p = 0 then 0 else if r < wayF X2 Y2 (O2 (p - 1)).toNat (O2 p).toNat then 1 else 0
    by_cases q : p = 0
    · rw [if_pos q, if_pos q]
    · have o1 := hO p hpp
      have o2 := hO (p - 1) (by omega)
      rw [if_neg q, if_neg q, e p hpp, e (p - 1) (by omega), wayF_cg h (by omega) (by omega)])]
theorem rpF_cg (h : AgX n X Y X2 Y2) {own : Int → Int → Int} {p : Int} : rpF own p n X Y = rpF own p n X2 Y2 := by
  unfold rpF
  exact sumN_congr (fun i hi => by rw [(h i hi).1, (h i hi).2])
theorem spF_cg (h : AgX n X Y X2 Y2) {own : Int → Int → Int} {p : Int} {O O2 : Nat → Int} (hO : OrdN n O) (e : ∀ p, p < n → O2 p = O p) : spF own p n X Y r t O = spF own p n X2 Y2 r t O2 := by
  unfold spF
  refine sumN_congr (fun q hq => ?_)
  have o1 := hO q hq
  obtain ⟨a1, a2⟩ := h (O q).toNat (by omega)
  unfold spT
  rw [e q hq, a1, a2, cpF_cg h hO e hq]
theorem nearF_cg {d d2 : Nat → Int} {pl : Nat → Bool} : ∀ m, (∀ i, i < m → d i = d2 i) → nearF d pl m = nearF d2 pl m := by
  intro m
  induction m with
  | zero => intro _; rfl
  | succ m ih =>
    intro h
    rw [nearF_s, nearF_s, ih (fun i hi => h i (by omega))]
    cases hq : nearF d2 pl m with
    | none => rfl
    | some b =>
      have := (nearF_lt hq).1
      dsimp only
      rw [h m (by omega), h b (by omega)]
theorem foS_cg (h : AgX n X Y X2 Y2) : ∀ k, k ≤ n → foS n X Y k = foS n X2 Y2 k := by
  intro k
  induction k with
  | zero => intro _; rfl
  | succ k ih =>
    intro hk
    have e := ih (by omega)
    have hl : k ≠ 0 → (foS n X2 Y2 k).1 < n := fun z => by
      obtain ⟨j, rfl⟩ : ∃ j, k = j + 1 := ⟨k - 1, by omega⟩
      exact (foO_ok (n := n) (X := X2) (Y := Y2) (k := j) (by omega)).1
    have e1 : (foS n X Y (k + 1)).1 = (foS n X2 Y2 (k + 1)).1 := by
      rw [foS_1, foS_1]
      by_cases z : k = 0
      · rw [if_pos z, if_pos z]
      · rw [if_neg z, if_neg z, e, nearF_cg n (fun i hi => wayF_cg h (hl z) hi)]
    have e2 : (foS n X Y (k + 1)).2 = (foS n X2 Y2 (k + 1)).2 := by
      funext r
      rw [foS_2, foS_2, e]
      unfold foO
      rw [e1]
    exact Prod.ext e1 e2
theorem foO_cg (h : AgX n X Y X2 Y2) {p : Nat} (hpp : p < n) : foO n X Y p = foO n X2 Y2 p := by
  unfold foO
  rw [foS_cg h (p + 1) hpp]
end CONGR
