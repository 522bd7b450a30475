/-! a method that the small machine ends, the JVM ends alike: its contract -/
def aWs (t : Nat) : List Cond := .code (mNm t) (mCode t) (mMaxL t) (retOf (mRk t)) :: aU
def aRm (t : Nat) (h h1 : AH) : Room := { frames := mFr t, cells := h1.1.length - h.1.length, slots := aSl h1.1 - aSl h.1, locals := mLo t }
def aPc (sc : Nat × (Nat → Int)) (D : va_G) (dA : Nat → ClassId) (ads : Nat → Nat) (h : AH) (sz : Nat) (vs : List AV) : Array Value → State → Prop :=
  va_Pc (vs.map (aV ads)) (fun U => U.heap.size = sz ∧ va_P D vwCl (aW dA ads h) U.heap ∧ aKn D dA U ∧ va_D (fun _ => True) (aW dA ads h) ∧ aScr sc (ads 0) U (va_A (aW dA ads h) sz))
def aBk (D : va_G) (dA : Nat → ClassId) (ads : Nat → Nat) (h h1 : AH) (sz : Nat) (ads2 : Nat → Nat) (t : State) : Prop :=
  va_P D vwCl (aW dA ads2 h1) t.heap ∧ va_D (va_A (aW dA ads h) sz) (aW dA ads2 h1) ∧ aExt h.1.length ads ads2 ∧ aWf h1
def aQc (v : Option AV) (D : va_G) (dA : Nat → ClassId) (ads : Nat → Nat) (h h1 : AH) (sz : Nat) : Array Value → State → Outcome → State → Prop := match v with
  | none => va_Qv (fun _ : Nat → Nat => True) (aBk D dA ads h h1 sz) (va_A (aW dA ads h) sz)
  | some (.inl x) => va_Qi (fun r (_ : Nat → Nat) => r = oi x ∧ in32 x) (aBk D dA ads h h1 sz) (va_A (aW dA ads h) sz)
  | some (.inr a) => va_Qr (fun _ : Nat → Nat => a ≤ h1.1.length) (fun ads2 ra t => aBk D dA ads h h1 sz ads2 t ∧ ra = ads2 a) (va_A (aW dA ads h) sz)
def aSnd (sc : Nat × (Nat → Int)) (l : Launch) (n : Nat) : Prop := ∀ (mi pc : Nat) (lv : LV) (st : List AV) (h : AH) (v : Option AV) (h' : AH), aX sc n mi pc lv st h = some (v, h') →
  ∀ (p : Program) (ev : Env) (R : Room) (s : State) (m : MethodId) (args : Array Value) (below : List Frame) (meth : Method) (c : Code) (D : va_G) (dA : Nat → ClassId) (b : Nat) (A : Nat → Prop) (ads : Nat → Nat) (H : Heap) (locs : List Loc) (cells slots : Nat) (Q : State → Prop) (ls : Array Slot) (N0 S0 : Nat),
  aCtx p s m args meth c D dA mi → R.frames = mFr mi → R.locals = mLo mi → ads 0 = b → aScr sc b s A → (∀ q, s.heap.size ≤ q → A q) →
  aRep D dA A s ads h H locs → aL ads (mMaxL mi) lv ls → aVs h.1.length lv st →
  h.1.length = N0 + cells → aSl h.1 = S0 + slots → h'.1.length ≤ N0 + R.cells → aSl h'.1 ≤ S0 + R.slots →
  (∀ (pc2 : Nat) (lv2 : LV) (st2 : List AV) (ads2 : Nat → Nat) (H2 : Heap) (locs2 : List Loc) (ls2 : Array Slot) (cells2 slots2 : Nat), aStep sc mi pc2 lv2 st2 h' = some (.inr (.inr v)) → aRep D dA A s ads2 h' H2 locs2 → aL ads2 (mMaxL mi) lv2 ls2 → aVs h'.1.length lv2 st2 → aExt h.1.length ads ads2 → h'.1.length = N0 + cells2 → aSl h'.1 = S0 + slots2 →
    W p l ev R s m args below meth c H2 locs2 cells2 slots2 Q (F0 m pc2 ls2 (st2.map (aV ads2)))) →
  W p l ev R s m args below meth c H locs cells slots Q (F0 m pc ls (st.map (aV ads)))
theorem aX_pre {sc : Nat × (Nat → Int)} : ∀ (n mi pc : Nat) (lv : LV) (st : List AV) (h : AH) (v : Option AV) (h' : AH), aX sc n mi pc lv st h = some (v, h') → ∃ t, h'.1 = h.1 ++ t := by
  intro n
  induction n with
  | zero => intro mi pc lv st h v h' e; cases e
  | succ n ih =>
    intro mi pc lv st h v h' e
    unfold aX at e
    cases hs : aStep sc mi pc lv st h with
    | none => rw [hs] at e; cases e
    | some t =>
      rw [hs] at e
      rcases t with q | q | w
      · obtain ⟨t1, e1⟩ := aStep_pre hs
        obtain ⟨t2, e2⟩ := ih _ _ _ _ _ _ _ e
        exact ⟨t1 ++ t2, by rw [e2, e1, List.append_assoc]⟩
      · dsimp only at e
        cases hc : aX sc n q.1 0 q.2.1 [] h with
        | none => rw [hc] at e; cases e
        | some r =>
          rw [hc] at e
          obtain ⟨t1, e1⟩ := ih _ _ _ _ _ _ _ hc
          obtain ⟨t2, e2⟩ := ih _ _ _ _ _ _ _ e
          exact ⟨t1 ++ t2, by rw [e2, e1, List.append_assoc]⟩
      · dsimp only at e
        cases e
        exact ⟨[], (List.append_nil _).symm⟩
theorem aSl_app (a b : List (Nat × Nat)) : aSl (a ++ b) = aSl a + aSl b := by simp [aSl]
theorem a_sllen {ads : Nat → Nat} {vs : List AV} : (lg_sl (vs.map (aV ads))).length = vs.length := by
  induction vs with
  | nil => rfl
  | cons v vs ih =>
    unfold lg_sl at ih ⊢
    rw [List.map_cons, List.flatMap_cons, List.length_append, ih, if_neg (by rw [aV_cat]; omega), List.length_cons]
    simp
    omega
theorem a_args {ads : Nat → Nat} : ∀ (vs : List AV) (k i : Nat) (v : AV), vs[i]? = some v → (k + i, aV ads v) ∈ lv_args k (vs.map (aV ads)) := by
  intro vs
  induction vs with
  | nil => intro k i v h; simp at h
  | cons w vs ih =>
    intro k i v h
    show (k + i, aV ads v) ∈ (k, aV ads w) :: lv_args (if (aV ads w).category = 2 then k + 2 else k + 1) (vs.map (aV ads))
    rw [if_neg (by rw [aV_cat]; omega)]
    cases i with
    | zero => simp at h; subst h; exact List.mem_cons_self
    | succ i =>
      refine List.mem_cons_of_mem _ ?_
      have := ih (k + 1) i v (by simpa using h)
      rwa [show k + 1 + i = k + (i + 1) by omega] at this
theorem ent_get {n i : Nat} {vs : List AV} {v : AV} (h : (ent n vs)[i]? = some (some v)) : vs[i]? = some v := by
  unfold ent at h
  by_cases hi : i < vs.length
  · rw [List.getElem?_append_left (by rw [List.length_map]; exact hi), List.getElem?_map] at h
    cases hv : vs[i]? with
    | none => rw [hv] at h; cases h
    | some w => rw [hv] at h; cases h; rfl
  · rw [List.getElem?_append_right (by rw [List.length_map]; omega), List.getElem?_replicate] at h
    split at h <;> cases h
theorem a_entry {ads : Nat → Nat} {n : Nat} {vs : List AV} {ls : Array Slot} (hn : vs.length ≤ n) (h : lv_has ls n (lv_args 0 (vs.map (aV ads)))) : aL ads n (ent n vs) ls := by
  refine ⟨by unfold ent; rw [List.length_append, List.length_map, List.length_replicate]; omega, h.1, h.2.1, fun i v hi => ?_⟩
  have := a_args (ads := ads) vs 0 i v (ent_get hi)
  rw [Nat.zero_add] at this
  exact h.2.2 _ this
theorem a_entV {n k : Nat} {vs : List AV} (h : ∀ v ∈ vs, aOk k v) : aVs k (ent n vs) [] := ⟨fun v hv => (by cases hv), fun i v hi => h v (List.mem_of_getElem? (ent_get hi))⟩
set_option maxHeartbeats 4000000 in
theorem aMet {sc : Nat × (Nat → Int)} {l : Launch} {n t : Nat} {vs : List AV} {h h1 : AH} {v : Option AV} (IH : aSnd sc l n) (hx : aX sc n t 0 (ent (mMaxL t) vs) [] h = some (v, h1)) (ht : MOk t) (hwf : aWf h) (hvs : ∀ w ∈ vs, aOk h.1.length w) (hn : vs.length ≤ mMaxL t) (D : va_G) (dA : Nat → ClassId) (ads : Nat → Nat) (sz : Nat) :
    Met l (mNm t) (aWs t) (aRm t h h1) (aPc sc D dA ads h sz vs) (aQc v D dA ads h h1 sz) (h1.1.length - h.1.length) (aSl h1.1 - aSl h.1) (va_A (aW dA ads h) sz) := by
  obtain ⟨hcode, hplain, -, hcls, -⟩ := ht
  obtain ⟨tl, htl⟩ := aX_pre _ _ _ _ _ _ _ _ hx
  have hle1 : h.1.length ≤ h1.1.length := by rw [htl, List.length_append]; omega
  have hle2 : aSl h.1 ≤ aSl h1.1 := by rw [htl, aSl_app]; omega
  refine Met.ofW (cc := mCode t) (maxL := mMaxL t) (ret := retOf (mRk t)) hplain rfl ?_
  intro p ev s m args below meth c s₁ B hml hv
  obtain ⟨rfl, hsz, hP, hK, hD0, hSc⟩ := hv
  have hts : ∀ w ∈ aU, w.before (vs.map (aV ads)).toArray s = true := fun w hw => atoms_spec (ws := aWs t) B.pre w (List.mem_cons_of_mem _ hw)
  have hown : s.vm.findClass (cNm (mOwn t)) = some m.cls := by rw [← hcls]; exact findClass_of_methodNamed B.named
  have hin : mIni t = true → meth.name = "<init>" := fun q => by
    rw [(name_of_methodNamed B.named B.method).1]
    exact eq_of_beq q
  subst hsz
  have hl := lv_entry (vs.map (aV ads)) (n := mMaxL t) (by rw [a_sllen]; exact hn)
  rw [lg_entry_eq]
  generalize (lg_sl (vs.map (aV ads)) ++ List.replicate (mMaxL t - (lg_sl (vs.map (aV ads))).length) Slot.unset).toArray = ls at hl ⊢
  refine IH t 0 _ [] h v h1 hx p ev _ s m _ below meth c D dA (ads 0) (va_A (aW dA ads h) s.heap.size) ads s.heap [] 0 0 _ ls h.1.length (aSl h.1) ⟨B.exec, B.bytes, hml, hown, hts, hK, hin⟩ rfl rfl rfl hSc (fun q hq => Or.inr hq) ⟨hP, hD0.self, va_S.rf, hwf⟩ (a_entry hn hl) (a_entV hvs) rfl rfl (by show _ ≤ _ + (h1.1.length - h.1.length); omega) (by show _ ≤ _ + (aSl h1.1 - aSl h.1); omega) ?_
  intro pc2 lv2 st2 ads2 H2 locs2 ls2 cells2 slots2 e hR hL hV hE hc hs
  obtain ⟨hP2, hD2, hS2, hwf2⟩ := hR
  obtain rfl : cells2 = h1.1.length - h.1.length := by omega
  obtain rfl : slots2 = aSl h1.1 - aSl h.1 := by omega
  rcases aStep_retI e with ⟨x, hd, rfl, rfl, hr⟩ | ⟨a, hd, rfl, rfl, hr⟩ | ⟨hd, rfl, rfl, hr⟩
  · have hx32 : in32 x := aVs_hd hV
    have fin : ∀ ty : FieldType, retOf (mRk t) = some ty → narrow ty (.int (oi x)) = .int (oi x) → W p l ev (headSpec (aWs t) (aRm t h h1)).room s m (vs.map (aV ads)).toArray below meth c H2 locs2 (h1.1.length - h.1.length) (aSl h1.1 - aSl h.1) (MQ below (aQc (some (.inl x)) D dA ads h h1 s.heap.size) (vs.map (aV ads)).toArray s (h1.1.length - h.1.length) (aSl h1.1 - aSl h.1) (va_A (aW dA ads h) s.heap.size)) (F0 m pc2 ls2 [.int (oi x)]) := fun ty h7 h8 =>
      W.zret (v := oi x) (ty := ty) B.exec B.bytes (by rw [B.returns]; exact h7) h8 (fun tt htt hW => ⟨⟨oi x, ads2, rfl, ⟨rfl, hx32⟩, by rw [htt]; exact hP2, hD2, hE, hwf2⟩, hS2.F htt⟩) hS2.2.2 hd B.notSynchronized
    rcases hr with hr | ⟨hr, h0, h1'⟩ | ⟨hr, h0, h1'⟩
    · exact fin .int (by rw [hr]; rfl) rfl
    · exact fin .boolean (by rw [hr]; rfl) (oi_nar_bool h0 h1')
    · exact fin .char (by rw [hr]; rfl) (oi_nar_char h0 h1')
  · have ha : a ≤ h1.1.length := aVs_hd hV
    exact W.aret (v := .ref (ads2 a)) (rt := .object RX2) B.exec B.bytes (by rw [B.returns, hr]; rfl) (Or.inl ⟨_, rfl⟩) (Or.inr ⟨_, rfl⟩) (fun tt htt hW => ⟨⟨ads2, ads2 a, rfl, ha, ⟨by rw [htt]; exact hP2, hD2, hE, hwf2⟩, rfl⟩, hS2.F htt⟩) hS2.2.2 hd B.notSynchronized
  · exact W.vret B.exec B.bytes (by rw [B.returns, hr]; rfl) (fun tt htt hW => ⟨⟨ads2, rfl, trivial, by rw [htt]; exact hP2, hD2, hE, hwf2⟩, hS2.F htt⟩) hS2.2.2 hd B.notSynchronized
theorem aPc_blind (sc : Nat × (Nat → Int)) (D : va_G) (dA : Nat → ClassId) (ads : Nat → Nat) (h : AH) (sz : Nat) (vs : List AV) : FrameBlind (aPc sc D dA ads h sz vs) := fun a U g mk q => by
  obtain ⟨q0, q1, q2, q3, q4, xs, x1, x2⟩ := q
  exact ⟨q0, q1, q2, aKn_same (u := U) (U := U.calling g mk a) rfl q3, q4, xs, va_X.moved (u := U) (U := U.calling g mk a) (Vm.Alike.refl U.vm) x1, x2⟩
theorem aW_free {A0 : Nat → Prop} {ws : va_W} {H0 H : Heap} {locs : List Loc} (hD : va_D A0 ws) (hS : va_S A0 H0 H locs) (hA : ∀ q, H0.size ≤ q → A0 q) : ∀ q, va_A ws H.size q → A0 q := by
  intro q h
  rcases h with ⟨k, e, h⟩ | h
  · exact hD.2 k (q, e) h
  · exact hA q (Nat.le_trans hS.1 h)
set_option maxHeartbeats 4000000 in
theorem a_after {p : Program} {l : Launch} {ev : Env} {R : Room} {s : State} {m : MethodId} {args : Array Value} {below : List Frame} {meth : Method} {c : Code} {D : va_G} {dA : Nat → ClassId} {A : Nat → Prop} {ads : Nat → Nat} {H : Heap} {locs : List Loc} {cells slots mc ms pc : Nat} {Q : State → Prop} {ls : Array Slot} {h h1 : AH} {v : Option AV} {rest st0 : List Value} {a : Array Value}
    (hR : aRep D dA A s ads h H locs) (hA : ∀ q, s.heap.size ≤ q → A q)
    (hr : va_Run p l ev R s m args below meth c H locs cells slots mc ms (F0 m pc ls st0) rest (aQc v D dA ads h h1 H.size a) (va_A (aW dA ads h) H.size))
    (kk : ∀ (ads2 : Nat → Nat) (H2 : Heap) (locs2 : List Loc), aExt h.1.length ads ads2 → aRep D dA A s ads2 h1 H2 locs2 → (∀ w, v = some w → aOk h1.1.length w) → W p l ev R s m args below meth c H2 locs2 (cells + mc) (slots + ms) Q (F0 m (pc + 3) ls (v.toList.map (aV ads2) ++ rest))) :
    W p l ev R s m args below meth c H locs cells slots Q (F0 m pc ls st0) := by
  obtain ⟨hP, hD, hS, hwf⟩ := hR
  have hF := aW_free hD hS hA
  cases v with
  | none =>
    refine va_callv (a := a) hr hS (fun q _ z => hF q z) hF (fun u t H1 locs1 ht hvm hw hB hz1 hk1 hS1 => ?_)
    obtain ⟨b1, b2, b3, b4⟩ := hB
    rw [ht] at b1
    exact kk u H1 locs1 b3 ⟨b1, b2.weaken (fun k q _ z => hF q.1 z), hS1, b4⟩ (fun w z => by cases z)
  | some w =>
    cases w with
    | inl x =>
      refine va_calli (a := a) hr hS (fun q _ z => hF q z) hF (fun r u t H1 locs1 ht hvm hw hB hz1 hk1 hS1 => ?_)
      obtain ⟨b1, b2, b3, b4⟩ := hB
      rw [ht] at b1
      obtain ⟨rfl, hx⟩ := hw
      exact kk u H1 locs1 b3 ⟨b1, b2.weaken (fun k q _ z => hF q.1 z), hS1, b4⟩ (fun w z => by cases z; exact hx)
    | inr x =>
      refine va_callr (a := a) hr hS (fun q _ z => hF q z) hF (fun u ra t H1 locs1 ht hvm hw hB hz1 hk1 hS1 => ?_)
      obtain ⟨⟨b1, b2, b3, b4⟩, rfl⟩ := hB
      rw [ht] at b1
      exact kk u H1 locs1 b3 ⟨b1, b2.weaken (fun k q _ z => hF q.1 z), hS1, b4⟩ (fun w z => by cases z; exact hw)
theorem aU_in {a : List Cond} (ha : ∀ w ∈ a, w ∈ aU) : GoodIn aU a := fun w h => ⟨ha w h, (aU_good w (ha w h)).2⟩
theorem aWs_in {t : Nat} (ht : MOk t) : ∀ w ∈ aWs t, w ∈ aU := fun w h => (List.mem_cons.mp h).elim (fun e => e ▸ ht.1) id
theorem cT_own : ∀ o, ∀ e ∈ cTab o, e.2.2.2 = 0 → mOwn e.2.1 < 7 := fun o => match o with
  | 0 => by decide +kernel
  | 1 => by decide +kernel
  | 2 => by decide +kernel
  | 3 => by decide +kernel
  | 4 => by decide +kernel
  | 5 => by decide +kernel
  | 6 => by decide +kernel
  | 7 => by decide +kernel
  | k + 8 => fun _ h => absurd h (show _ ∉ ([] : List (Nat × (Nat × Nat × Nat))) from List.not_mem_nil)
set_option maxHeartbeats 4000000 in
theorem aSound (sc : Nat × (Nat → Int)) (l : Launch) : ∀ n, aSnd sc l n := by
  intro n
  induction n with
  | zero => intro mi pc lv st h v h' e; cases e
  | succ n IH =>
    intro mi pc lv st h v h' e p ev R s m args below meth c D dA b A ads H locs cells slots Q ls N0 S0 C hRf hRl hb0 hS0 hA hR hL hV hcl hsl hRc hRs fin
    have hpre := aX_pre _ _ _ _ _ _ _ _ e
    unfold aX at e
    cases hs : aStep sc mi pc lv st h with
    | none => rw [hs] at e; cases e
    | some t =>
      rw [hs] at e
      rcases t with q | q | w
      · dsimp only at e
        obtain ⟨t1, e1⟩ := aX_pre _ _ _ _ _ _ _ _ e
        have g1 : q.2.2.2.1.length ≤ h'.1.length := by rw [e1, List.length_append]; omega
        have g2 : aSl q.2.2.2.1 ≤ aSl h'.1 := by rw [e1, aSl_app]; omega
        obtain ⟨t2, e2⟩ := hpre
        have g3 : h.1.length ≤ h'.1.length := by rw [e2, List.length_append]; omega
        have g4 : aSl h.1 ≤ aSl h'.1 := by rw [e2, aSl_app]; omega
        refine aStep_W hs C hRf hRl hb0 hS0 hA hR hL hV (by omega) (by omega) (by omega) (by omega) (fun ads2 H2 locs2 ls2 cells2 slots2 hE hR2 hL2 hV2 hc2 hs2 => ?_)
        obtain ⟨t3, e3⟩ := aStep_pre hs
        have hb2 : ads2 0 = b := by rw [hE 0 (Nat.zero_le _), hb0]
        refine IH _ _ _ _ _ _ _ e p ev R s m args below meth c D dA b A ads2 H2 locs2 cells2 slots2 Q ls2 N0 S0 C hRf hRl hb2 hS0 hA hR2 hL2 hV2 (by omega) (by omega) hRc hRs ?_
        intro pc3 lv3 st3 ads3 H3 locs3 ls3 cells3 slots3 z1 z2 z3 z4 z5 z6 z7
        refine fin pc3 lv3 st3 ads3 H3 locs3 ls3 cells3 slots3 z1 z2 z3 z4 (fun k hk => ?_) z6 z7
        rw [z5 k (by rw [e3, List.length_append]; omega), hE k hk]
      · dsimp only at e
        cases hc : aX sc n q.1 0 q.2.1 [] h with
        | none => rw [hc] at e; cases e
        | some r =>
          obtain ⟨v1, h1⟩ := r
          rw [hc] at e
          dsimp only at e
          obtain ⟨t1, e1⟩ := aX_pre _ _ _ _ _ _ _ _ e
          have g1 : h1.1.length ≤ h'.1.length := by rw [e1, List.length_append]; omega
          have g2 : aSl h1.1 ≤ aSl h'.1 := by rw [e1, aSl_app]; omega
          obtain ⟨t2, e2⟩ := aX_pre _ _ _ _ _ _ _ _ hc
          have g3 : h.1.length ≤ h1.1.length := by rw [e2, List.length_append]; omega
          have g4 : aSl h.1 ≤ aSl h1.1 := by rw [e2, aSl_app]; omega
          have go : ∀ (rest : List AV), (∀ w ∈ rest, w ∈ st) → q.2.2.2 = rest → ∀ (pc3 : Nat), q.2.2.1 = pc3 → ∀ (ads2 : Nat → Nat) (H2 : Heap) (locs2 : List Loc), aExt h.1.length ads ads2 → aRep D dA A s ads2 h1 H2 locs2 → (∀ w, v1 = some w → aOk h1.1.length w) → W p l ev R s m args below meth c H2 locs2 (cells + (h1.1.length - h.1.length)) (slots + (aSl h1.1 - aSl h.1)) Q (F0 m pc3 ls (v1.toList.map (aV ads2) ++ rest.map (aV ads))) := by
            intro rest hrest hq3 pc3 hq4 ads2 H2 locs2 hE hR2 hv1
            have hro : ∀ w ∈ rest, aOk h.1.length w := fun w hw => hV.1 w (hrest w hw)
            rw [← aVm_ext hE hro, ← List.map_append]
            rw [hq3, hq4] at e
            have hb2 : ads2 0 = b := by rw [hE 0 (Nat.zero_le _), hb0]
            refine IH _ _ _ _ _ _ _ e p ev R s m args below meth c D dA b A ads2 H2 locs2 _ _ Q ls N0 S0 C hRf hRl hb2 hS0 hA hR2 (aL_ext hE hV hL) ⟨fun w hw => ?_, fun i w hi => aOk_mono g3 (hV.2 i w hi)⟩ (by omega) (by omega) hRc hRs ?_
            · rcases List.mem_append.mp hw with z | z
              · exact hv1 w (Option.mem_toList.mp z)
              · exact aOk_mono g3 (hro w z)
            · intro pc3 lv3 st3 ads3 H3 locs3 ls3 cells3 slots3 z1 z2 z3 z4 z5 z6 z7
              refine fin pc3 lv3 st3 ads3 H3 locs3 ls3 cells3 slots3 z1 z2 z3 z4 (fun k hk => ?_) z6 z7
              rw [z5 k (by omega), hE k hk]
          obtain ⟨hx, hb, hml, hown, hts, hK, hini⟩ := id C
          have hRP := hR.1
          have hPU : ∀ (vs : List AV) (U : State), U.heap = H → s.WarmedH U.vm → aPc sc D dA ads h H.size vs (vs.map (aV ads)).toArray U := fun vs U hU hW => ⟨rfl, by rw [hU], by rw [hU]; exact hRP, aKn_warm hW hK, hR.2.1.weaken (fun _ _ _ _ => trivial), by
            obtain ⟨xs, g1, g2, g3, g4, g5⟩ := hS0
            refine ⟨xs, ?_, ?_, ?_, g4, g5⟩
            · rw [hb0, hU]; exact va_X.moved hW.alike (va_X.kept g1 (hR.2.2.1.2.1 b g2 g3))
            · rw [hb0, hU]; exact Nat.lt_of_lt_of_le g2 hR.2.2.1.1
            · rw [hb0]
              rintro (⟨k, e, hh⟩ | hh)
              · exact g3 (hR.2.1.2 k (b, e) hh)
              · have := hR.2.2.1.1
                omega⟩
          rcases aStep_callI hs with ⟨i, t, nn, b3, rest, n0, hd, hal, hfit, hlt, hdrop, ⟨b1, rfl, hcell⟩, hlen, rfl⟩ | ⟨i, t, nn, kd, hd, hal, hkd, hfit, hlt, hlen, rfl⟩ | ⟨i, t, nn, kd, b3, rest, hd, hal, hkd, hfit, hlt, hdrop, hlen, rfl⟩
          · obtain ⟨hM, hnn, w1, w2, w3⟩ := cOk _ _ (alook_mem _ _ _ hal)
            have hown8 := cT_own _ _ (alook_mem _ _ _ hal) rfl
            dsimp only at hc go hown8
            have hst : st = st.take nn ++ .inr (b1 + 1) :: rest := by rw [← hdrop, List.take_append_drop]
            have hrs : ∀ w ∈ rest, w ∈ st := fun w hw => by rw [hst]; exact List.mem_append_right _ (List.mem_cons_of_mem _ hw)
            have htk : (st.take nn).length = nn := by rw [List.length_take]; omega
            have hvs : ∀ w ∈ (Sum.inr (b1 + 1) :: (st.take nn).reverse : List AV), aOk h.1.length w := fun w hw => by
              rcases List.mem_cons.mp hw with z | z
              · rw [z]; exact hV.1 _ (by rw [hst]; exact List.mem_append_right _ List.mem_cons_self)
              · exact hV.1 w (List.mem_of_mem_take (List.mem_reverse.mp z))
            have hMet := aMet IH hc hM hR.2.2.2 hvs (by rw [List.length_cons, List.length_reverse, htk]; exact hlen.1) D dA ads H.size
            have hw5 := aW_get (dA := dA) (ads := ads) hcell
            rw [aE_obj hown8] at hw5
            refine a_after hR hA (a := (Value.ref (ads (b1 + 1)) :: ((st.take nn).reverse.map (aV ads))).toArray) (rest := rest.map (aV ads)) (va_runV (As := (st.take nn).reverse.map (aV ads)) (Ts := aU) (C := cNm (mOwn t)) (b := ads (b1 + 1)) (n := nn) ⟨hx, hb, hml, hown, hts⟩ hMet (cwV nn hts (aU_in (fun w hw => ?_)) rfl rfl rfl ⟨hM.2.2.2.1, hM.2.2.1.1, hM.2.2.1.2.1, by rw [hnn]; exact hM.2.2.1.2.2⟩ (by rw [hRf, hRl]; exact hfit)) ⟨aPc_blind _ _ _ _ _ _ _, va_recv hK.1 hR.1 (cl_ok _ hown8) hw5, fun U hU hW => hPU (.inr (b1 + 1) :: (st.take nn).reverse) U hU hW⟩ rfl (by rw [List.length_map, List.length_reverse, htk]) hL.2.1 ?_ (lv_room (by rw [a_cats]; exact hlen.2)) hd ⟨by omega, by omega⟩) (go rest hrs rfl (pc + 3) rfl)
            · unfold wsV at hw
              rcases List.mem_append.mp hw with z | z
              · simp only [List.mem_cons, List.not_mem_nil, or_false] at z
                rcases z with z | z | z | z <;> rw [z]
                · exact w1
                · exact w2
                · exact w3
                · rw [← hM.2.2.2.1]; exact hM.2.2.2.2
              · exact aWs_in hM w z
            · show st.map (aV ads) = _
              rw [← List.map_reverse, List.reverse_reverse]
              conv => lhs; rw [hst]
              rw [List.map_append, List.map_cons]
              rfl
          · have hrs : ∀ w ∈ st.drop nn, w ∈ st := fun w hw => List.mem_of_mem_drop hw
            have htk : (st.take nn).length = nn := by rw [List.length_take]; omega
            have hvs : ∀ w ∈ (st.take nn).reverse, aOk h.1.length w := fun w hw => hV.1 w (List.mem_of_mem_take (List.mem_reverse.mp hw))
            dsimp only at hc go
            have hstk : st.map (aV ads) = (((st.take nn).reverse).map (aV ads)).reverse ++ (st.drop nn).map (aV ads) := by
              rw [← List.map_reverse, List.reverse_reverse, ← List.map_append, List.take_append_drop]
            rcases hkd with rfl | rfl
            · obtain ⟨hM, hnn, w1, w2⟩ := cOk _ _ (alook_mem _ _ _ hal)
              have hMet := aMet IH hc hM hR.2.2.2 hvs (by rw [List.length_reverse, htk]; exact hlen.1) D dA ads H.size
              refine a_after hR hA (a := (((st.take nn).reverse).map (aV ads)).toArray) (rest := (st.drop nn).map (aV ads)) (va_runS (As := (st.take nn).reverse.map (aV ads)) (Ts := aU) (n := nn) ⟨hx, hb, hml, hown, hts⟩ hMet ⟨callB_of nn hts (aU_in (aWs_in hM)) rfl rfl rfl (hts _ hM.2.2.2.2) (hts _ w1) ⟨hM.2.2.1.1, hM.2.2.1.2.1, by rw [hnn]; exact hM.2.2.1.2.2⟩ (by rw [hRf, hRl]; exact hfit), hts _ w2⟩ ⟨aPc_blind _ _ _ _ _ _ _, fun U hU hW => hPU _ U hU hW⟩ rfl (by rw [List.length_map, List.length_reverse, htk]) hL.2.1 hstk (lv_room (by rw [a_cats]; exact hlen.2)) hd ⟨by omega, by omega⟩) (go _ hrs rfl (pc + 3) rfl)
            · obtain ⟨hM, hnn, ⟨z, w1⟩, w2⟩ := cOk _ _ (alook_mem _ _ _ hal)
              have hMet := aMet IH hc hM hR.2.2.2 hvs (by rw [List.length_reverse, htk]; exact hlen.1) D dA ads H.size
              refine a_after hR hA (a := (((st.take nn).reverse).map (aV ads)).toArray) (rest := (st.drop nn).map (aV ads)) (va_runSN (host := z) (As := (st.take nn).reverse.map (aV ads)) (Ts := aU) (n := nn) ⟨hx, hb, hml, hown, hts⟩ hMet ⟨va_cnB nn hts (aU_in (aWs_in hM)) rfl rfl rfl (hK.2.1 _ w1) (hts _ hM.2.2.2.2) ⟨hM.2.2.1.1, hM.2.2.1.2.1, by rw [hnn]; exact hM.2.2.1.2.2⟩ (by rw [hRf, hRl]; exact hfit), hts _ w2, trivial⟩ ⟨aPc_blind _ _ _ _ _ _ _, fun U hU hW => hPU _ U hU hW⟩ rfl (by rw [List.length_map, List.length_reverse, htk]) hL.2.1 hstk (lv_room (by rw [a_cats]; exact hlen.2)) hd ⟨by omega, by omega⟩) (go _ hrs rfl (pc + 3) rfl)
          · dsimp only at hc go
            have hst : st = st.take nn ++ .inr b3 :: rest := by rw [← hdrop, List.take_append_drop]
            have hrs : ∀ w ∈ rest, w ∈ st := fun w hw => by rw [hst]; exact List.mem_append_right _ (List.mem_cons_of_mem _ hw)
            have htk : (st.take nn).length = nn := by rw [List.length_take]; omega
            have hvs : ∀ w ∈ (Sum.inr b3 :: (st.take nn).reverse : List AV), aOk h.1.length w := fun w hw => by
              rcases List.mem_cons.mp hw with z | z
              · rw [z]; exact hV.1 _ (by rw [hst]; exact List.mem_append_right _ List.mem_cons_self)
              · exact hV.1 w (List.mem_of_mem_take (List.mem_reverse.mp z))
            have hstk : st.map (aV ads) = (((st.take nn).reverse).map (aV ads)).reverse ++ .ref (ads b3) :: rest.map (aV ads) := by
              rw [← List.map_reverse, List.reverse_reverse]
              conv => lhs; rw [hst]
              rw [List.map_append, List.map_cons]
              rfl
            rcases hkd with rfl | rfl
            · obtain ⟨hM, hnn, w1, w2, w3, w4⟩ := cOk _ _ (alook_mem _ _ _ hal)
              have hMet := aMet IH hc hM hR.2.2.2 hvs (by rw [List.length_cons, List.length_reverse, htk]; exact hlen.1) D dA ads H.size
              refine a_after hR hA (a := (Value.ref (ads b3) :: ((st.take nn).reverse.map (aV ads))).toArray) (rest := rest.map (aV ads)) (va_runI (As := (st.take nn).reverse.map (aV ads)) (Ts := aU) (b := ads b3) (n := nn) ⟨hx, hb, hml, hown, hts⟩ hMet (cwI nn hts (aU_in (aWs_in hM)) (by unfold aWs; rw [w4]; rfl) rfl rfl (hts _ hM.2.2.2.2) (hts _ w1) (hts _ w2) w3 ⟨hM.2.2.1.1, hM.2.2.1.2.1, by rw [hnn]; exact hM.2.2.1.2.2⟩ (by rw [hRf, hRl]; exact hfit)) ⟨aPc_blind _ _ _ _ _ _ _, fun U hU hW => hPU (.inr b3 :: (st.take nn).reverse) U hU hW⟩ rfl (by rw [List.length_map, List.length_reverse, htk]) hL.2.1 hstk (lv_room (by rw [a_cats]; exact hlen.2)) hd ⟨by omega, by omega⟩) (go rest hrs rfl (pc + 3) rfl)
            · obtain ⟨hM, hnn, ⟨z, w1⟩, w2, w3, w4⟩ := cOk _ _ (alook_mem _ _ _ hal)
              have hMet := aMet IH hc hM hR.2.2.2 hvs (by rw [List.length_cons, List.length_reverse, htk]; exact hlen.1) D dA ads H.size
              refine a_after hR hA (a := (Value.ref (ads b3) :: ((st.take nn).reverse.map (aV ads))).toArray) (rest := rest.map (aV ads)) (va_runIN (host := z) (As := (st.take nn).reverse.map (aV ads)) (Ts := aU) (b := ads b3) (n := nn) ⟨hx, hb, hml, hown, hts⟩ hMet ⟨va_cnB nn hts (aU_in (aWs_in hM)) (by unfold aWs; rw [w4]; rfl) rfl rfl (hK.2.1 _ w1) (hts _ hM.2.2.2.2) ⟨hM.2.2.1.1, hM.2.2.1.2.1, by rw [hnn]; exact hM.2.2.1.2.2⟩ (by rw [hRf, hRl]; exact hfit), w3, hts _ w2⟩ ⟨aPc_blind _ _ _ _ _ _ _, fun U hU hW => hPU (.inr b3 :: (st.take nn).reverse) U hU hW⟩ rfl (by rw [List.length_map, List.length_reverse, htk]) hL.2.1 hstk (lv_room (by rw [a_cats]; exact hlen.2)) hd ⟨by omega, by omega⟩) (go rest hrs rfl (pc + 3) rfl)
      · dsimp only at e
        cases e
        exact fin pc lv st ads H locs ls cells slots hs hR hL hV (fun _ _ => rfl) hcl hsl
