/-! whole methods of the small machine, and the JVM's -/
theorem aStep_pre {sc : Nat × (Nat → Int)} {mi pc : Nat} {lv : LV} {st : List AV} {h : AH} {q : AN} (e : aStep sc mi pc lv st h = some (.inl q)) : ∃ t, q.2.2.2.1 = h.1 ++ t := by
  have nx : ∀ {pc : Nat} {lv : LV} {st : List AV} {rf : Nat → Nat → Nat} {iv : Nat → Nat → Int}, aNext pc lv st (h.1, rf, iv) = some (.inl q) → ∃ t, q.2.2.2.1 = h.1 ++ t := by
    intro pc lv st rf iv z
    obtain rfl := aNext_q z
    exact ⟨[], (List.append_nil _).symm⟩
  have nw : ∀ {pc : Nat} {lv : LV} {st : List AV} {k n : Nat} {rf : Nat → Nat → Nat} {iv : Nat → Nat → Int}, aNext pc lv st (h.1 ++ [(k, n)], rf, iv) = some (.inl q) → ∃ t, q.2.2.2.1 = h.1 ++ t := by
    intro pc lv st k n rf iv z
    obtain rfl := aNext_q z
    exact ⟨_, rfl⟩
  have nc : ∀ {t pc : Nat} {vs rest : List AV}, aCall t vs pc rest = some (.inl q) → ∃ t, q.2.2.2.1 = h.1 ++ t := by
    intro t pc vs rest z
    cases (aCall_some z).2
  unfold aStep at e
  split at e
  · obtain ⟨_, e⟩ := bck_some e
    exact nx e
  · obtain ⟨_, e⟩ := bck_some e
    exact nx e
  · obtain ⟨_, e⟩ := bck_some e
    exact nx e
  · obtain ⟨_, _, e⟩ := gO_some e
    exact nx e
  · obtain ⟨_, _, e⟩ := gI_some e
    exact nx e
  · obtain ⟨_, _, e⟩ := gI_some e
    exact nx e
  · obtain ⟨_, _, e⟩ := gR_some e
    exact nx e
  · obtain ⟨_, _, e⟩ := gR_some e
    exact nx e
  · obtain ⟨_, _, _, e⟩ := sI_some e
    obtain ⟨_, e⟩ := gd_some e
    exact nx e
  · obtain ⟨_, _, _, e⟩ := sI_some e
    obtain ⟨_, e⟩ := gd_some e
    exact nx e
  · obtain ⟨_, _, _, e⟩ := sR_some e
    obtain ⟨_, e⟩ := gd_some e
    exact nx e
  · obtain ⟨_, _, _, e⟩ := sR_some e
    obtain ⟨_, e⟩ := gd_some e
    exact nx e
  · obtain ⟨_, _, e⟩ := gI_some e
    obtain ⟨_, e⟩ := gd_some e
    obtain ⟨_, e⟩ := bck_some e
    exact nx e
  · obtain ⟨_, _, _, e⟩ := sI_some e
    obtain ⟨_, _, _, e⟩ := sI_some e
    obtain ⟨_, e⟩ := bck_some e
    exact nx e
  · obtain ⟨_, _, _, e⟩ := sI_some e
    obtain ⟨_, _, _, e⟩ := sI_some e
    obtain ⟨_, e⟩ := bck_some e
    exact nx e
  · obtain ⟨_, _, _, e⟩ := sI_some e
    obtain ⟨_, _, _, e⟩ := sI_some e
    obtain ⟨_, e⟩ := bck_some e
    exact nx e
  · obtain ⟨_, _, _, e⟩ := sI_some e
    obtain ⟨_, _, _, e⟩ := sI_some e
    obtain ⟨_, e⟩ := bck_some e
    obtain ⟨_, e⟩ := bck_some e
    exact nx e
  · obtain ⟨_, _, _, e⟩ := sI_some e
    obtain ⟨_, _, _, e⟩ := sI_some e
    obtain ⟨_, e⟩ := bck_some e
    obtain ⟨_, e⟩ := bck_some e
    exact nx e
  · obtain ⟨_, _, _, e⟩ := sI_some e
    obtain ⟨_, e⟩ := bck_some e
    exact nx e
  · obtain ⟨_, _, _, e⟩ := sI_some e
    obtain ⟨_, _, _, e⟩ := sI_some e
    obtain ⟨_, e⟩ := gd_some e
    exact nx e
  · obtain ⟨_, _, _, e⟩ := sI_some e
    obtain ⟨_, _, _, e⟩ := sI_some e
    obtain ⟨_, e⟩ := bck_some e
    obtain ⟨_, e⟩ := bck_some e
    exact nx e
  · obtain ⟨_, _, _, e⟩ := sI_some e
    obtain ⟨_, _, _, e⟩ := sI_some e
    obtain ⟨_, e⟩ := gd_some e
    obtain ⟨_, e⟩ := bck_some e
    exact nx e
  · obtain ⟨_, _, _, e⟩ := sI_some e
    obtain ⟨_, _, _, e⟩ := sI_some e
    obtain ⟨_, e⟩ := bck_some e
    exact nx e
  · obtain ⟨_, _, _, e⟩ := sI_some e
    exact nx e
  · split at e
    · exact nx e
    · cases e
  · split at e
    · exact nx e
    · cases e
  · split at e
    · exact nx e
    · cases e
  · obtain ⟨_, _, e⟩ := jmp_some e
    exact nx e
  · obtain ⟨_, _, _, e⟩ := sI_some e
    obtain ⟨_, _, e⟩ := jmp_some e
    split at e
    · exact nx e
    · exact nx e
  · obtain ⟨_, _, _, e⟩ := sI_some e
    obtain ⟨_, _, _, e⟩ := sI_some e
    obtain ⟨_, _, e⟩ := jmp_some e
    split at e
    · exact nx e
    · exact nx e
  · obtain ⟨_, _, _, e⟩ := sI_some e
    split at e
    · obtain ⟨_, _, e⟩ := jmp_some e
      exact nx e
    · obtain ⟨_, _, e⟩ := gO_some e
      obtain ⟨_, _, e⟩ := jmp_some e
      exact nx e
  · obtain ⟨_, _, e⟩ := gO_some e
    obtain ⟨_, _, _, e⟩ := sR_some e
    obtain ⟨_, _, _, _, e⟩ := isA_some e
    split at e
    · obtain ⟨_, e⟩ := gd_some e
      exact nx e
    · exact nx e
  · obtain ⟨_, _, e⟩ := gO_some e
    obtain ⟨_, e⟩ := gd_some e
    split at e
    · obtain ⟨_, _, _, e⟩ := sR_some e
      obtain ⟨_, _, _, e⟩ := sR_some e
      obtain ⟨_, e⟩ := gd_some e
      obtain ⟨_, _, _, _, e⟩ := isA_some e
      exact nx e
    · obtain ⟨_, _, _, e⟩ := sI_some e
      obtain ⟨_, _, _, e⟩ := sR_some e
      obtain ⟨_, e⟩ := bck_some e
      obtain ⟨_, _, _, _, e⟩ := isA_some e
      exact nx e
  · obtain ⟨_, _, _, e⟩ := sI_some e
    obtain ⟨_, _, _, e⟩ := sR_some e
    split at e
    · obtain ⟨_, e⟩ := bck_some e
      exact nx e
    · obtain ⟨_, _, _, _, e⟩ := isA_some e
      obtain ⟨_, e⟩ := bck_some e
      exact nx e
  · obtain ⟨_, _, _, e⟩ := sI_some e
    obtain ⟨_, _, _, e⟩ := sR_some e
    obtain ⟨_, _, _, _, e⟩ := isA_some e
    obtain ⟨_, e⟩ := bck_some e
    exact nx e
  · obtain ⟨_, _, _, e⟩ := sI_some e
    obtain ⟨_, _, _, e⟩ := sR_some e
    obtain ⟨_, _, _, _, e⟩ := isA_some e
    obtain ⟨_, e⟩ := bck_some e
    exact nx e
  · obtain ⟨_, _, _, e⟩ := sI_some e
    obtain ⟨_, _, _, e⟩ := sR_some e
    obtain ⟨_, _, _, _, e⟩ := isA_some e
    obtain ⟨_, e⟩ := bck_some e
    obtain ⟨_, e⟩ := gd_some e
    exact nx e
  · obtain ⟨_, _, _, e⟩ := sI_some e
    obtain ⟨_, _, _, e⟩ := sI_some e
    obtain ⟨_, _, _, e⟩ := sR_some e
    obtain ⟨_, _, _, _, e⟩ := isA_some e
    obtain ⟨_, e⟩ := bck_some e
    obtain ⟨_, e⟩ := bck_some e
    exact nx e
  · obtain ⟨_, _, _, e⟩ := sI_some e
    obtain ⟨_, _, _, e⟩ := sI_some e
    obtain ⟨_, _, _, e⟩ := sR_some e
    obtain ⟨_, _, _, _, e⟩ := isA_some e
    obtain ⟨_, e⟩ := bck_some e
    obtain ⟨_, e⟩ := bck_some e
    exact nx e
  · obtain ⟨_, _, _, e⟩ := sI_some e
    obtain ⟨_, _, _, e⟩ := sI_some e
    obtain ⟨_, _, _, e⟩ := sR_some e
    obtain ⟨_, _, _, _, e⟩ := isA_some e
    obtain ⟨_, e⟩ := bck_some e
    obtain ⟨_, e⟩ := bck_some e
    exact nx e
  · obtain ⟨_, _, _, e⟩ := sR_some e
    obtain ⟨_, _, _, e⟩ := sI_some e
    obtain ⟨_, _, _, e⟩ := sR_some e
    obtain ⟨_, _, _, _, e⟩ := isA_some e
    obtain ⟨_, _, _, _, e⟩ := isA_some e
    obtain ⟨_, e⟩ := bck_some e
    exact nx e
  · obtain ⟨_, _, _, e⟩ := sR_some e
    obtain ⟨_, e⟩ := gd_some e
    exact nx e
  · obtain ⟨_, _, e⟩ := gO_some e
    exact nw e
  · obtain ⟨_, _, _, e⟩ := sI_some e
    obtain ⟨_, e⟩ := bck_some e
    exact nw e
  · obtain ⟨_, _, _, e⟩ := sI_some e
    obtain ⟨_, e⟩ := bck_some e
    exact nw e
  · obtain ⟨_, _, _, e⟩ := sI_some e
    obtain ⟨_, e⟩ := bck_some e
    exact nw e
  · obtain ⟨_, e⟩ := gd_some e
    obtain ⟨_, _, _, e⟩ := sI_some e
    obtain ⟨_, e⟩ := bck_some e
    exact nw e
  · rename_i hd
    split at e
    · obtain ⟨_, e⟩ := gd_some e
      cases e
    · cases e
  · rename_i hd
    split at e
    · obtain ⟨_, e⟩ := gd_some e
      cases e
    · cases e
  · rename_i hd
    split at e
    · obtain ⟨_, e⟩ := gd_some e
      cases e
    · cases e
  · rename_i i hd
    obtain ⟨_, _, e⟩ := gO_some e
    obtain ⟨_, e⟩ := gd_some e
    obtain ⟨_, _, _, e⟩ := sR_some e
    obtain ⟨_, _, _, _, e⟩ := isA_some e
    exact nc e
  · rename_i i hd
    obtain ⟨_, _, e⟩ := gO_some e
    split at e
    · obtain ⟨_, e⟩ := gd_some e
      exact nc e
    · obtain ⟨_, e⟩ := gd_some e
      exact nc e
    · obtain ⟨_, _, _, e⟩ := sI_some e
      obtain ⟨_, _, _, e⟩ := sI_some e
      obtain ⟨_, e⟩ := gd_some e
      exact nx e
    · obtain ⟨_, _, _, e⟩ := sI_some e
      obtain ⟨_, _, _, e⟩ := sI_some e
      obtain ⟨_, e⟩ := gd_some e
      exact nx e
    · obtain ⟨_, _, _, e⟩ := sI_some e
      obtain ⟨_, e⟩ := gd_some e
      obtain ⟨_, e⟩ := bck_some e
      exact nx e
    · cases e
  · rename_i i hd
    obtain ⟨_, _, e⟩ := gO_some e
    split at e
    · obtain ⟨_, e⟩ := gd_some e
      obtain ⟨_, _, _, e⟩ := sR_some e
      obtain ⟨_, e⟩ := gd_some e
      exact nc e
    · obtain ⟨_, e⟩ := gd_some e
      obtain ⟨_, _, _, e⟩ := sR_some e
      obtain ⟨_, e⟩ := gd_some e
      exact nc e
    · obtain ⟨_, _, _, e⟩ := sR_some e
      obtain ⟨_, e⟩ := gd_some e
      exact nx e
    · cases e
  · cases e
theorem aStep_callI {sc : Nat × (Nat → Int)} {mi pc : Nat} {lv : LV} {st : List AV} {h : AH} {q : AC} (e : aStep sc mi pc lv st h = some (.inr (.inl q))) :
    (∃ i t n b rest n0, decode (mCode mi) pc = .ok (.invokevirtual i, 3) ∧ alook (cTab (mOwn mi)) i = some (t, n, 0) ∧ aFit mi t ∧ n < st.length ∧ st.drop n = .inr b :: rest ∧ (∃ b1, b = b1 + 1 ∧ h.1[b1]? = some (mOwn t, n0)) ∧ (n + 1 ≤ mMaxL t ∧ rest.length ≤ 8) ∧ q = (t, ent (mMaxL t) (.inr b :: (st.take n).reverse), pc + 3, rest)) ∨
    (∃ i t n kd, decode (mCode mi) pc = .ok (.invokestatic i, 3) ∧ alook (cTab (mOwn mi)) i = some (t, n, kd) ∧ (kd = 1 ∨ kd = 2) ∧ aFit mi t ∧ n ≤ st.length ∧ (n ≤ mMaxL t ∧ (st.drop n).length ≤ 8) ∧ q = (t, ent (mMaxL t) (st.take n).reverse, pc + 3, st.drop n)) ∨
    (∃ i t n kd b rest, decode (mCode mi) pc = .ok (.invokespecial i, 3) ∧ alook (cTab (mOwn mi)) i = some (t, n, kd) ∧ (kd = 3 ∨ kd = 4) ∧ aFit mi t ∧ n < st.length ∧ st.drop n = .inr b :: rest ∧ (n + 1 ≤ mMaxL t ∧ rest.length ≤ 8) ∧ q = (t, ent (mMaxL t) (.inr b :: (st.take n).reverse), pc + 3, rest)) := by
  have nx : ∀ {pc : Nat} {lv : LV} {st : List AV} {h : AH}, aNext pc lv st h = some (.inr (.inl q)) → False := by
    intro pc lv st h z
    cases aNext_some z
  unfold aStep at e
  split at e
  · obtain ⟨_, e⟩ := bck_some e
    exact (nx e).elim
  · obtain ⟨_, e⟩ := bck_some e
    exact (nx e).elim
  · obtain ⟨_, e⟩ := bck_some e
    exact (nx e).elim
  · obtain ⟨_, _, e⟩ := gO_some e
    exact (nx e).elim
  · obtain ⟨_, _, e⟩ := gI_some e
    exact (nx e).elim
  · obtain ⟨_, _, e⟩ := gI_some e
    exact (nx e).elim
  · obtain ⟨_, _, e⟩ := gR_some e
    exact (nx e).elim
  · obtain ⟨_, _, e⟩ := gR_some e
    exact (nx e).elim
  · obtain ⟨_, _, _, e⟩ := sI_some e
    obtain ⟨_, e⟩ := gd_some e
    exact (nx e).elim
  · obtain ⟨_, _, _, e⟩ := sI_some e
    obtain ⟨_, e⟩ := gd_some e
    exact (nx e).elim
  · obtain ⟨_, _, _, e⟩ := sR_some e
    obtain ⟨_, e⟩ := gd_some e
    exact (nx e).elim
  · obtain ⟨_, _, _, e⟩ := sR_some e
    obtain ⟨_, e⟩ := gd_some e
    exact (nx e).elim
  · obtain ⟨_, _, e⟩ := gI_some e
    obtain ⟨_, e⟩ := gd_some e
    obtain ⟨_, e⟩ := bck_some e
    exact (nx e).elim
  · obtain ⟨_, _, _, e⟩ := sI_some e
    obtain ⟨_, _, _, e⟩ := sI_some e
    obtain ⟨_, e⟩ := bck_some e
    exact (nx e).elim
  · obtain ⟨_, _, _, e⟩ := sI_some e
    obtain ⟨_, _, _, e⟩ := sI_some e
    obtain ⟨_, e⟩ := bck_some e
    exact (nx e).elim
  · obtain ⟨_, _, _, e⟩ := sI_some e
    obtain ⟨_, _, _, e⟩ := sI_some e
    obtain ⟨_, e⟩ := bck_some e
    exact (nx e).elim
  · obtain ⟨_, _, _, e⟩ := sI_some e
    obtain ⟨_, _, _, e⟩ := sI_some e
    obtain ⟨_, e⟩ := bck_some e
    obtain ⟨_, e⟩ := bck_some e
    exact (nx e).elim
  · obtain ⟨_, _, _, e⟩ := sI_some e
    obtain ⟨_, _, _, e⟩ := sI_some e
    obtain ⟨_, e⟩ := bck_some e
    obtain ⟨_, e⟩ := bck_some e
    exact (nx e).elim
  · obtain ⟨_, _, _, e⟩ := sI_some e
    obtain ⟨_, e⟩ := bck_some e
    exact (nx e).elim
  · obtain ⟨_, _, _, e⟩ := sI_some e
    obtain ⟨_, _, _, e⟩ := sI_some e
    obtain ⟨_, e⟩ := gd_some e
    exact (nx e).elim
  · obtain ⟨_, _, _, e⟩ := sI_some e
    obtain ⟨_, _, _, e⟩ := sI_some e
    obtain ⟨_, e⟩ := bck_some e
    obtain ⟨_, e⟩ := bck_some e
    exact (nx e).elim
  · obtain ⟨_, _, _, e⟩ := sI_some e
    obtain ⟨_, _, _, e⟩ := sI_some e
    obtain ⟨_, e⟩ := gd_some e
    obtain ⟨_, e⟩ := bck_some e
    exact (nx e).elim
  · obtain ⟨_, _, _, e⟩ := sI_some e
    obtain ⟨_, _, _, e⟩ := sI_some e
    obtain ⟨_, e⟩ := bck_some e
    exact (nx e).elim
  · obtain ⟨_, _, _, e⟩ := sI_some e
    exact (nx e).elim
  · split at e
    · exact (nx e).elim
    · cases e
  · split at e
    · exact (nx e).elim
    · cases e
  · split at e
    · exact (nx e).elim
    · cases e
  · obtain ⟨_, _, e⟩ := jmp_some e
    exact (nx e).elim
  · obtain ⟨_, _, _, e⟩ := sI_some e
    obtain ⟨_, _, e⟩ := jmp_some e
    split at e
    · exact (nx e).elim
    · exact (nx e).elim
  · obtain ⟨_, _, _, e⟩ := sI_some e
    obtain ⟨_, _, _, e⟩ := sI_some e
    obtain ⟨_, _, e⟩ := jmp_some e
    split at e
    · exact (nx e).elim
    · exact (nx e).elim
  · obtain ⟨_, _, _, e⟩ := sI_some e
    split at e
    · obtain ⟨_, _, e⟩ := jmp_some e
      exact (nx e).elim
    · obtain ⟨_, _, e⟩ := gO_some e
      obtain ⟨_, _, e⟩ := jmp_some e
      exact (nx e).elim
  · obtain ⟨_, _, e⟩ := gO_some e
    obtain ⟨_, _, _, e⟩ := sR_some e
    obtain ⟨_, _, _, _, e⟩ := isA_some e
    split at e
    · obtain ⟨_, e⟩ := gd_some e
      exact (nx e).elim
    · exact (nx e).elim
  · obtain ⟨_, _, e⟩ := gO_some e
    obtain ⟨_, e⟩ := gd_some e
    split at e
    · obtain ⟨_, _, _, e⟩ := sR_some e
      obtain ⟨_, _, _, e⟩ := sR_some e
      obtain ⟨_, e⟩ := gd_some e
      obtain ⟨_, _, _, _, e⟩ := isA_some e
      exact (nx e).elim
    · obtain ⟨_, _, _, e⟩ := sI_some e
      obtain ⟨_, _, _, e⟩ := sR_some e
      obtain ⟨_, e⟩ := bck_some e
      obtain ⟨_, _, _, _, e⟩ := isA_some e
      exact (nx e).elim
  · obtain ⟨_, _, _, e⟩ := sI_some e
    obtain ⟨_, _, _, e⟩ := sR_some e
    split at e
    · obtain ⟨_, e⟩ := bck_some e
      exact (nx e).elim
    · obtain ⟨_, _, _, _, e⟩ := isA_some e
      obtain ⟨_, e⟩ := bck_some e
      exact (nx e).elim
  · obtain ⟨_, _, _, e⟩ := sI_some e
    obtain ⟨_, _, _, e⟩ := sR_some e
    obtain ⟨_, _, _, _, e⟩ := isA_some e
    obtain ⟨_, e⟩ := bck_some e
    exact (nx e).elim
  · obtain ⟨_, _, _, e⟩ := sI_some e
    obtain ⟨_, _, _, e⟩ := sR_some e
    obtain ⟨_, _, _, _, e⟩ := isA_some e
    obtain ⟨_, e⟩ := bck_some e
    exact (nx e).elim
  · obtain ⟨_, _, _, e⟩ := sI_some e
    obtain ⟨_, _, _, e⟩ := sR_some e
    obtain ⟨_, _, _, _, e⟩ := isA_some e
    obtain ⟨_, e⟩ := bck_some e
    obtain ⟨_, e⟩ := gd_some e
    exact (nx e).elim
  · obtain ⟨_, _, _, e⟩ := sI_some e
    obtain ⟨_, _, _, e⟩ := sI_some e
    obtain ⟨_, _, _, e⟩ := sR_some e
    obtain ⟨_, _, _, _, e⟩ := isA_some e
    obtain ⟨_, e⟩ := bck_some e
    obtain ⟨_, e⟩ := bck_some e
    exact (nx e).elim
  · obtain ⟨_, _, _, e⟩ := sI_some e
    obtain ⟨_, _, _, e⟩ := sI_some e
    obtain ⟨_, _, _, e⟩ := sR_some e
    obtain ⟨_, _, _, _, e⟩ := isA_some e
    obtain ⟨_, e⟩ := bck_some e
    obtain ⟨_, e⟩ := bck_some e
    exact (nx e).elim
  · obtain ⟨_, _, _, e⟩ := sI_some e
    obtain ⟨_, _, _, e⟩ := sI_some e
    obtain ⟨_, _, _, e⟩ := sR_some e
    obtain ⟨_, _, _, _, e⟩ := isA_some e
    obtain ⟨_, e⟩ := bck_some e
    obtain ⟨_, e⟩ := bck_some e
    exact (nx e).elim
  · obtain ⟨_, _, _, e⟩ := sR_some e
    obtain ⟨_, _, _, e⟩ := sI_some e
    obtain ⟨_, _, _, e⟩ := sR_some e
    obtain ⟨_, _, _, _, e⟩ := isA_some e
    obtain ⟨_, _, _, _, e⟩ := isA_some e
    obtain ⟨_, e⟩ := bck_some e
    exact (nx e).elim
  · obtain ⟨_, _, _, e⟩ := sR_some e
    obtain ⟨_, e⟩ := gd_some e
    exact (nx e).elim
  · obtain ⟨_, _, e⟩ := gO_some e
    exact (nx e).elim
  · obtain ⟨_, _, _, e⟩ := sI_some e
    obtain ⟨_, e⟩ := bck_some e
    exact (nx e).elim
  · obtain ⟨_, _, _, e⟩ := sI_some e
    obtain ⟨_, e⟩ := bck_some e
    exact (nx e).elim
  · obtain ⟨_, _, _, e⟩ := sI_some e
    obtain ⟨_, e⟩ := bck_some e
    exact (nx e).elim
  · obtain ⟨_, e⟩ := gd_some e
    obtain ⟨_, _, _, e⟩ := sI_some e
    obtain ⟨_, e⟩ := bck_some e
    exact (nx e).elim
  · rename_i hd
    split at e
    · obtain ⟨_, e⟩ := gd_some e
      cases e
    · cases e
  · rename_i hd
    split at e
    · obtain ⟨_, e⟩ := gd_some e
      cases e
    · cases e
  · rename_i hd
    split at e
    · obtain ⟨_, e⟩ := gd_some e
      cases e
    · cases e
  · rename_i i hd
    obtain ⟨⟨t, n, kd⟩, hq, f⟩ := gO_some e
    clear e
    obtain ⟨h9, g⟩ := gd_some f
    clear f
    obtain ⟨h0, h1, h2⟩ := of_decide_eq_true h9
    clear h9
    dsimp only at h0 h1 h2 g
    subst h0
    obtain ⟨b, rest, hr, e⟩ := sR_some g
    obtain ⟨b1, n0, hb, hc, e⟩ := isA_some e
    obtain ⟨h3, h4⟩ := aCall_some e
    cases h4
    exact Or.inl ⟨i, t, n, b, rest, n0, hd, hq, h1, h2, hr, ⟨b1, hb, hc⟩, ⟨by have := h3.1; simp at this; omega, h3.2⟩, rfl⟩
  · rename_i i hd
    obtain ⟨⟨t, n, kd⟩, hq, e⟩ := gO_some e
    dsimp only at e
    split at e
    · obtain ⟨h0, e⟩ := gd_some e
      obtain ⟨h1, h2⟩ := of_decide_eq_true h0
      obtain ⟨h3, h4⟩ := aCall_some e
      cases h4
      exact Or.inr (Or.inl ⟨i, t, n, 1, hd, hq, Or.inl rfl, h1, h2, ⟨by have := h3.1; simp at this; omega, h3.2⟩, rfl⟩)
    · obtain ⟨h0, e⟩ := gd_some e
      obtain ⟨h1, h2⟩ := of_decide_eq_true h0
      obtain ⟨h3, h4⟩ := aCall_some e
      cases h4
      exact Or.inr (Or.inl ⟨i, t, n, 2, hd, hq, Or.inr rfl, h1, h2, ⟨by have := h3.1; simp at this; omega, h3.2⟩, rfl⟩)
    · obtain ⟨_, _, _, e⟩ := sI_some e
      obtain ⟨_, _, _, e⟩ := sI_some e
      obtain ⟨_, e⟩ := gd_some e
      exact (nx e).elim
    · obtain ⟨_, _, _, e⟩ := sI_some e
      obtain ⟨_, _, _, e⟩ := sI_some e
      obtain ⟨_, e⟩ := gd_some e
      exact (nx e).elim
    · obtain ⟨_, _, _, e⟩ := sI_some e
      obtain ⟨_, e⟩ := gd_some e
      obtain ⟨_, e⟩ := bck_some e
      exact (nx e).elim
    · cases e
  · rename_i i hd
    obtain ⟨⟨t, n, kd⟩, hq, e⟩ := gO_some e
    dsimp only at e
    split at e
    · obtain ⟨h0, e⟩ := gd_some e
      obtain ⟨h1, h2⟩ := of_decide_eq_true h0
      obtain ⟨b, rest, hr, e⟩ := sR_some e
      obtain ⟨_, e⟩ := gd_some e
      obtain ⟨h3, h4⟩ := aCall_some e
      cases h4
      exact Or.inr (Or.inr ⟨i, t, n, 3, b, rest, hd, hq, Or.inl rfl, h1, h2, hr, ⟨by have := h3.1; simp at this; omega, h3.2⟩, rfl⟩)
    · obtain ⟨h0, e⟩ := gd_some e
      obtain ⟨h1, h2⟩ := of_decide_eq_true h0
      obtain ⟨b, rest, hr, e⟩ := sR_some e
      obtain ⟨_, e⟩ := gd_some e
      obtain ⟨h3, h4⟩ := aCall_some e
      cases h4
      exact Or.inr (Or.inr ⟨i, t, n, 4, b, rest, hd, hq, Or.inr rfl, h1, h2, hr, ⟨by have := h3.1; simp at this; omega, h3.2⟩, rfl⟩)
    · obtain ⟨_, _, _, e⟩ := sR_some e
      obtain ⟨_, e⟩ := gd_some e
      exact (nx e).elim
    · cases e
  · cases e
theorem aStep_retI {sc : Nat × (Nat → Int)} {mi pc : Nat} {lv : LV} {st : List AV} {h : AH} {v : Option AV} (e : aStep sc mi pc lv st h = some (.inr (.inr v))) :
    (∃ x, decode (mCode mi) pc = .ok (.ireturn, 1) ∧ st = [.inl x] ∧ v = some (.inl x) ∧ (mRk mi = 1 ∨ (mRk mi = 2 ∧ 0 ≤ x ∧ x ≤ 1) ∨ (mRk mi = 3 ∧ 0 ≤ x ∧ x ≤ 65535))) ∨
    (∃ a, decode (mCode mi) pc = .ok (.areturn, 1) ∧ st = [.inr a] ∧ v = some (.inr a) ∧ mRk mi = 4) ∨
    (decode (mCode mi) pc = .ok (.return_, 1) ∧ st = [] ∧ v = none ∧ mRk mi = 0) := by
  have nx : ∀ {pc : Nat} {lv : LV} {st : List AV} {h : AH}, aNext pc lv st h = some (.inr (.inr v)) → False := by
    intro pc lv st h z
    cases aNext_some z
  have nc : ∀ {t pc : Nat} {vs rest : List AV}, aCall t vs pc rest = some (.inr (.inr v)) → False := by
    intro t pc vs rest z
    cases (aCall_some z).2
  unfold aStep at e
  split at e
  · obtain ⟨_, e⟩ := bck_some e
    exact (nx e).elim
  · obtain ⟨_, e⟩ := bck_some e
    exact (nx e).elim
  · obtain ⟨_, e⟩ := bck_some e
    exact (nx e).elim
  · obtain ⟨_, _, e⟩ := gO_some e
    exact (nx e).elim
  · obtain ⟨_, _, e⟩ := gI_some e
    exact (nx e).elim
  · obtain ⟨_, _, e⟩ := gI_some e
    exact (nx e).elim
  · obtain ⟨_, _, e⟩ := gR_some e
    exact (nx e).elim
  · obtain ⟨_, _, e⟩ := gR_some e
    exact (nx e).elim
  · obtain ⟨_, _, _, e⟩ := sI_some e
    obtain ⟨_, e⟩ := gd_some e
    exact (nx e).elim
  · obtain ⟨_, _, _, e⟩ := sI_some e
    obtain ⟨_, e⟩ := gd_some e
    exact (nx e).elim
  · obtain ⟨_, _, _, e⟩ := sR_some e
    obtain ⟨_, e⟩ := gd_some e
    exact (nx e).elim
  · obtain ⟨_, _, _, e⟩ := sR_some e
    obtain ⟨_, e⟩ := gd_some e
    exact (nx e).elim
  · obtain ⟨_, _, e⟩ := gI_some e
    obtain ⟨_, e⟩ := gd_some e
    obtain ⟨_, e⟩ := bck_some e
    exact (nx e).elim
  · obtain ⟨_, _, _, e⟩ := sI_some e
    obtain ⟨_, _, _, e⟩ := sI_some e
    obtain ⟨_, e⟩ := bck_some e
    exact (nx e).elim
  · obtain ⟨_, _, _, e⟩ := sI_some e
    obtain ⟨_, _, _, e⟩ := sI_some e
    obtain ⟨_, e⟩ := bck_some e
    exact (nx e).elim
  · obtain ⟨_, _, _, e⟩ := sI_some e
    obtain ⟨_, _, _, e⟩ := sI_some e
    obtain ⟨_, e⟩ := bck_some e
    exact (nx e).elim
  · obtain ⟨_, _, _, e⟩ := sI_some e
    obtain ⟨_, _, _, e⟩ := sI_some e
    obtain ⟨_, e⟩ := bck_some e
    obtain ⟨_, e⟩ := bck_some e
    exact (nx e).elim
  · obtain ⟨_, _, _, e⟩ := sI_some e
    obtain ⟨_, _, _, e⟩ := sI_some e
    obtain ⟨_, e⟩ := bck_some e
    obtain ⟨_, e⟩ := bck_some e
    exact (nx e).elim
  · obtain ⟨_, _, _, e⟩ := sI_some e
    obtain ⟨_, e⟩ := bck_some e
    exact (nx e).elim
  · obtain ⟨_, _, _, e⟩ := sI_some e
    obtain ⟨_, _, _, e⟩ := sI_some e
    obtain ⟨_, e⟩ := gd_some e
    exact (nx e).elim
  · obtain ⟨_, _, _, e⟩ := sI_some e
    obtain ⟨_, _, _, e⟩ := sI_some e
    obtain ⟨_, e⟩ := bck_some e
    obtain ⟨_, e⟩ := bck_some e
    exact (nx e).elim
  · obtain ⟨_, _, _, e⟩ := sI_some e
    obtain ⟨_, _, _, e⟩ := sI_some e
    obtain ⟨_, e⟩ := gd_some e
    obtain ⟨_, e⟩ := bck_some e
    exact (nx e).elim
  · obtain ⟨_, _, _, e⟩ := sI_some e
    obtain ⟨_, _, _, e⟩ := sI_some e
    obtain ⟨_, e⟩ := bck_some e
    exact (nx e).elim
  · obtain ⟨_, _, _, e⟩ := sI_some e
    exact (nx e).elim
  · split at e
    · exact (nx e).elim
    · cases e
  · split at e
    · exact (nx e).elim
    · cases e
  · split at e
    · exact (nx e).elim
    · cases e
  · obtain ⟨_, _, e⟩ := jmp_some e
    exact (nx e).elim
  · obtain ⟨_, _, _, e⟩ := sI_some e
    obtain ⟨_, _, e⟩ := jmp_some e
    split at e
    · exact (nx e).elim
    · exact (nx e).elim
  · obtain ⟨_, _, _, e⟩ := sI_some e
    obtain ⟨_, _, _, e⟩ := sI_some e
    obtain ⟨_, _, e⟩ := jmp_some e
    split at e
    · exact (nx e).elim
    · exact (nx e).elim
  · obtain ⟨_, _, _, e⟩ := sI_some e
    split at e
    · obtain ⟨_, _, e⟩ := jmp_some e
      exact (nx e).elim
    · obtain ⟨_, _, e⟩ := gO_some e
      obtain ⟨_, _, e⟩ := jmp_some e
      exact (nx e).elim
  · obtain ⟨_, _, e⟩ := gO_some e
    obtain ⟨_, _, _, e⟩ := sR_some e
    obtain ⟨_, _, _, _, e⟩ := isA_some e
    split at e
    · obtain ⟨_, e⟩ := gd_some e
      exact (nx e).elim
    · exact (nx e).elim
  · obtain ⟨_, _, e⟩ := gO_some e
    obtain ⟨_, e⟩ := gd_some e
    split at e
    · obtain ⟨_, _, _, e⟩ := sR_some e
      obtain ⟨_, _, _, e⟩ := sR_some e
      obtain ⟨_, e⟩ := gd_some e
      obtain ⟨_, _, _, _, e⟩ := isA_some e
      exact (nx e).elim
    · obtain ⟨_, _, _, e⟩ := sI_some e
      obtain ⟨_, _, _, e⟩ := sR_some e
      obtain ⟨_, e⟩ := bck_some e
      obtain ⟨_, _, _, _, e⟩ := isA_some e
      exact (nx e).elim
  · obtain ⟨_, _, _, e⟩ := sI_some e
    obtain ⟨_, _, _, e⟩ := sR_some e
    split at e
    · obtain ⟨_, e⟩ := bck_some e
      exact (nx e).elim
    · obtain ⟨_, _, _, _, e⟩ := isA_some e
      obtain ⟨_, e⟩ := bck_some e
      exact (nx e).elim
  · obtain ⟨_, _, _, e⟩ := sI_some e
    obtain ⟨_, _, _, e⟩ := sR_some e
    obtain ⟨_, _, _, _, e⟩ := isA_some e
    obtain ⟨_, e⟩ := bck_some e
    exact (nx e).elim
  · obtain ⟨_, _, _, e⟩ := sI_some e
    obtain ⟨_, _, _, e⟩ := sR_some e
    obtain ⟨_, _, _, _, e⟩ := isA_some e
    obtain ⟨_, e⟩ := bck_some e
    exact (nx e).elim
  · obtain ⟨_, _, _, e⟩ := sI_some e
    obtain ⟨_, _, _, e⟩ := sR_some e
    obtain ⟨_, _, _, _, e⟩ := isA_some e
    obtain ⟨_, e⟩ := bck_some e
    obtain ⟨_, e⟩ := gd_some e
    exact (nx e).elim
  · obtain ⟨_, _, _, e⟩ := sI_some e
    obtain ⟨_, _, _, e⟩ := sI_some e
    obtain ⟨_, _, _, e⟩ := sR_some e
    obtain ⟨_, _, _, _, e⟩ := isA_some e
    obtain ⟨_, e⟩ := bck_some e
    obtain ⟨_, e⟩ := bck_some e
    exact (nx e).elim
  · obtain ⟨_, _, _, e⟩ := sI_some e
    obtain ⟨_, _, _, e⟩ := sI_some e
    obtain ⟨_, _, _, e⟩ := sR_some e
    obtain ⟨_, _, _, _, e⟩ := isA_some e
    obtain ⟨_, e⟩ := bck_some e
    obtain ⟨_, e⟩ := bck_some e
    exact (nx e).elim
  · obtain ⟨_, _, _, e⟩ := sI_some e
    obtain ⟨_, _, _, e⟩ := sI_some e
    obtain ⟨_, _, _, e⟩ := sR_some e
    obtain ⟨_, _, _, _, e⟩ := isA_some e
    obtain ⟨_, e⟩ := bck_some e
    obtain ⟨_, e⟩ := bck_some e
    exact (nx e).elim
  · obtain ⟨_, _, _, e⟩ := sR_some e
    obtain ⟨_, _, _, e⟩ := sI_some e
    obtain ⟨_, _, _, e⟩ := sR_some e
    obtain ⟨_, _, _, _, e⟩ := isA_some e
    obtain ⟨_, _, _, _, e⟩ := isA_some e
    obtain ⟨_, e⟩ := bck_some e
    exact (nx e).elim
  · obtain ⟨_, _, _, e⟩ := sR_some e
    obtain ⟨_, e⟩ := gd_some e
    exact (nx e).elim
  · obtain ⟨_, _, e⟩ := gO_some e
    exact (nx e).elim
  · obtain ⟨_, _, _, e⟩ := sI_some e
    obtain ⟨_, e⟩ := bck_some e
    exact (nx e).elim
  · obtain ⟨_, _, _, e⟩ := sI_some e
    obtain ⟨_, e⟩ := bck_some e
    exact (nx e).elim
  · obtain ⟨_, _, _, e⟩ := sI_some e
    obtain ⟨_, e⟩ := bck_some e
    exact (nx e).elim
  · obtain ⟨_, e⟩ := gd_some e
    obtain ⟨_, _, _, e⟩ := sI_some e
    obtain ⟨_, e⟩ := bck_some e
    exact (nx e).elim
  · rename_i hd
    split at e
    · rename_i x
      obtain ⟨h0, e⟩ := gd_some e
      cases e
      exact Or.inl ⟨x, hd, rfl, rfl, of_decide_eq_true h0⟩
    · cases e
  · rename_i hd
    split at e
    · rename_i a
      obtain ⟨h0, e⟩ := gd_some e
      cases e
      exact Or.inr (Or.inl ⟨a, hd, rfl, rfl, (of_decide_eq_true h0).1⟩)
    · cases e
  · rename_i hd
    split at e
    · obtain ⟨h0, e⟩ := gd_some e
      cases e
      exact Or.inr (Or.inr ⟨hd, rfl, rfl, of_decide_eq_true h0⟩)
    · cases e
  · rename_i i hd
    obtain ⟨_, _, e⟩ := gO_some e
    obtain ⟨_, e⟩ := gd_some e
    obtain ⟨_, _, _, e⟩ := sR_some e
    obtain ⟨_, _, _, _, e⟩ := isA_some e
    exact (nc e).elim
  · rename_i i hd
    obtain ⟨_, _, e⟩ := gO_some e
    split at e
    · obtain ⟨_, e⟩ := gd_some e
      exact (nc e).elim
    · obtain ⟨_, e⟩ := gd_some e
      exact (nc e).elim
    · obtain ⟨_, _, _, e⟩ := sI_some e
      obtain ⟨_, _, _, e⟩ := sI_some e
      obtain ⟨_, e⟩ := gd_some e
      exact (nx e).elim
    · obtain ⟨_, _, _, e⟩ := sI_some e
      obtain ⟨_, _, _, e⟩ := sI_some e
      obtain ⟨_, e⟩ := gd_some e
      exact (nx e).elim
    · obtain ⟨_, _, _, e⟩ := sI_some e
      obtain ⟨_, e⟩ := gd_some e
      obtain ⟨_, e⟩ := bck_some e
      exact (nx e).elim
    · cases e
  · rename_i i hd
    obtain ⟨_, _, e⟩ := gO_some e
    split at e
    · obtain ⟨_, e⟩ := gd_some e
      obtain ⟨_, _, _, e⟩ := sR_some e
      obtain ⟨_, e⟩ := gd_some e
      exact (nc e).elim
    · obtain ⟨_, e⟩ := gd_some e
      obtain ⟨_, _, _, e⟩ := sR_some e
      obtain ⟨_, e⟩ := gd_some e
      exact (nc e).elim
    · obtain ⟨_, _, _, e⟩ := sR_some e
      obtain ⟨_, e⟩ := gd_some e
      exact (nx e).elim
    · cases e
  · cases e
