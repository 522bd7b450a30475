theorem a_cats {ads : Nat → Nat} {st : List AV} : ((st.map (aV ads)).map fun v => v.category).sum = st.length := by
  induction st with
  | nil => rfl
  | cons v st ih =>
    rw [List.map_cons, List.map_cons, List.sum_cons, ih, aV_cat, List.length_cons]
    omega
theorem a_max {x y : Int} (hx : in32 x) (hy : in32 y) : Value.int (if oi x < oi y then oi y else oi x) = Value.int (oi (if x < y then y else x)) := by
  by_cases h : x < y
  · rw [if_pos ((oi_lt hx hy).mpr h), if_pos h]
  · rw [if_neg (fun z => h ((oi_lt hx hy).mp z)), if_neg h]
theorem a_min {x y : Int} (hx : in32 x) (hy : in32 y) : Value.int (if oi y < oi x then oi y else oi x) = Value.int (oi (if y < x then y else x)) := by
  by_cases h : y < x
  · rw [if_pos ((oi_lt hy hx).mpr h), if_pos h]
  · rw [if_neg (fun z => h ((oi_lt hy hx).mp z)), if_neg h]
theorem a_abs {x : Int} (hx : in32 x) : Value.int (if (0 : Int32) ≤ oi x then oi x else 0 - oi x) = Value.int (oi (if 0 ≤ x then x else 0 - x)) := by
  by_cases h : 0 ≤ x
  · rw [if_pos (show (0 : Int32) ≤ oi x from (oi_le (x := 0) ⟨by omega, by omega⟩ hx).mpr h), if_pos h]
  · rw [if_neg (show ¬ (0 : Int32) ≤ oi x from fun z => h ((oi_le (x := 0) ⟨by omega, by omega⟩ hx).mp z)), if_neg h]
    exact congrArg Value.int (oi_sub 0 x)
theorem in32_abs {x : Int} (h1 : -2147483647 ≤ x ∧ x ≤ 2147483647) : in32 (if 0 ≤ x then x else 0 - x) := by
  by_cases h : 0 ≤ x
  · rw [if_pos h]; exact ⟨by omega, by omega⟩
  · rw [if_neg h]; exact ⟨by omega, by omega⟩
theorem aFs_set {ads : Nat → Nat} {h h2 : AH} {k b1 ci : Nat} {v : Value} (h1 : aFv ads h2 b1 ci k = v) (h3 : ∀ j, j ≠ k → aFv ads h2 b1 ci j = aFv ads h b1 ci j) : (List.range (cN ci)).map (aFv ads h2 b1 ci) = ((List.range (cN ci)).map (aFv ads h b1 ci)).set k v := by
  apply List.ext_getElem?
  intro j
  by_cases hj : j < cN ci
  · rw [List.getElem?_map, List.getElem?_range hj]
    by_cases e : j = k
    · subst e
      rw [List.getElem?_set_self (by simpa using hj)]
      exact congrArg some h1
    · rw [List.getElem?_set_ne (fun q => e q.symm), List.getElem?_map, List.getElem?_range hj]
      exact congrArg some (h3 j e)
  · rw [List.getElem?_eq_none (by simp; omega), List.getElem?_eq_none (by simp; omega)]
theorem aWf_int {h : AH} {b1 i : Nat} {q : Nat × Nat} {x : Int} (hwf : aWf h) (hcell : h.1[b1]? = some q) (hx : in32 x) : aWf (h.1, h.2.1, setO h.2.2 (b1 + 1) (upI (h.2.2 (b1 + 1)) i x)) := by
  have hl : b1 < h.1.length := (List.getElem?_eq_some_iff.mp hcell).1
  refine ⟨fun k j => ?_, hwf.2.1, fun k j hk => ⟨?_, (hwf.2.2 k j hk).2⟩⟩
  · show in32 (setO h.2.2 (b1 + 1) (upI (h.2.2 (b1 + 1)) i x) k j)
    by_cases e : k = b1 + 1
    · by_cases ej : j = i
      · rw [show setO h.2.2 (b1 + 1) (upI (h.2.2 (b1 + 1)) i x) k j = x from by unfold setO upI; rw [if_pos e, if_pos ej]]; exact hx
      · rw [show setO h.2.2 (b1 + 1) (upI (h.2.2 (b1 + 1)) i x) k j = h.2.2 (b1 + 1) j from by unfold setO upI; rw [if_pos e, if_neg ej]]; exact hwf.1 _ _
    · rw [show setO h.2.2 (b1 + 1) (upI (h.2.2 (b1 + 1)) i x) k j = h.2.2 k j from by unfold setO; rw [if_neg e]]; exact hwf.1 _ _
  · show setO h.2.2 (b1 + 1) (upI (h.2.2 (b1 + 1)) i x) k j = 0
    have hk2 : h.1.length < k := hk
    rw [show setO h.2.2 (b1 + 1) (upI (h.2.2 (b1 + 1)) i x) k j = h.2.2 k j from by unfold setO; rw [if_neg (by omega)]]
    exact (hwf.2.2 k j hk).1
theorem aWf_push {h : AH} {q : Nat × Nat} (hwf : aWf h) : aWf (h.1 ++ [q], h.2.1, h.2.2) := by
  have hlen : (h.1 ++ [q]).length = h.1.length + 1 := by rw [List.length_append, List.length_singleton]
  refine ⟨hwf.1, fun k j => ?_, fun k j hk => ?_⟩
  · show _ ≤ (h.1 ++ [q]).length
    have h0 : h.2.1 k j ≤ h.1.length := hwf.2.1 k j
    show h.2.1 k j ≤ (h.1 ++ [q]).length
    omega
  · have hk2 : (h.1 ++ [q]).length < k := hk
    exact hwf.2.2 k j (by omega)
theorem decl_ok : ∀ o, o < 7 → ∀ k, k < cN o → (cT o k).1 = cNm o := by decide +kernel
theorem prim_ok : ∀ o, o < 7 → ∀ k, k < cN o → fRef o k = false → fTy o k = .int ∨ fTy o k = .boolean := by decide +kernel
theorem a_narrow_ref {ci k a : Nat} (hr : fRef ci k = true) : narrow (fTy ci k) (.ref a) = .ref a := by
  cases fTy ci k <;> rfl
theorem a_fits_ref {ci k a : Nat} (hr : fRef ci k = true) : fits (fTy ci k) (.ref a) = true := by
  unfold fRef at hr
  cases h : fTy ci k <;> rw [h] at hr <;> first | rfl | cases hr
theorem a_narrow_int {ci k : Nat} {x : Int} (hci : ci < 7) (hk : k < cN ci) (hr : ¬ fRef ci k = true) (h1 : fLo ci k ≤ x ∧ x ≤ fHi ci k) : narrow (fTy ci k) (.int (oi x)) = .int (oi x) := by
  unfold fLo fHi at h1
  rcases prim_ok ci hci k hk (by simpa using hr) with e | e
  · rw [e]; rfl
  · rw [if_pos e, if_pos e] at h1
    rw [e]; exact oi_nar_bool h1.1 h1.2
theorem a_fits_int {ci k : Nat} {x : Int} (hci : ci < 7) (hk : k < cN ci) (hr : ¬ fRef ci k = true) (h1 : fLo ci k ≤ x ∧ x ≤ fHi ci k) : fits (fTy ci k) (.int (oi x)) = true := by
  unfold fLo fHi at h1
  rcases prim_ok ci hci k hk (by simpa using hr) with e | e
  · rw [e]; rfl
  · rw [if_pos e, if_pos e] at h1
    rw [e]; exact oi_fit_bool h1.1 h1.2
theorem a_born {o j : Nat} {ads : Nat → Nat} {h : AH} (ho : o < 7) (hj : j < cN o) (hwf : aWf h) : defaultValue (fTy o j) = vp_V ((List.range (cN o)).map (aFv ads h (h.1.length + 1) o)) j := by
  have hz := hwf.2.2 (h.1.length + 1) j (Nat.lt_succ_self _)
  unfold vp_V
  rw [List.getD_eq_getElem?_getD, List.getElem?_map, List.getElem?_range hj]
  show _ = aFv ads h (h.1.length + 1) o j
  unfold aFv
  rw [hz.1, hz.2]
  by_cases hr : fRef o j = true
  · rw [if_pos hr]
    unfold fRef at hr
    cases h : fTy o j <;> rw [h] at hr <;> first | rfl | cases hr
  · rw [if_neg hr]
    rcases prim_ok o ho j hj (by simpa using hr) with e | e <;> rw [e] <;> rfl
section APUT
variable {p : Program} {l : Launch} {e : Env} {R : Room} {s : State} {m : MethodId} {args : Array Value} {below : List Frame} {meth : Method} {c : Code} {H : Heap} {locs : List Loc} {cells slots : Nat} {Q : State → Prop}
variable {cc : ByteArray} {pc : Nat} {ls : Array Slot} {rest : List Value} {D : va_G} {A : Nat → Prop} {a : Nat} {tys : List (ClassId × FieldType)} {ws : va_W} {H0 : Heap}
theorem a_put (hexec : p.tables.exec = Jvm.exec) (hb : c.code = cc) {mi ci index : Nat} (hts : ∀ w ∈ aU, w.before args s = true) (hown : s.vm.findClass (cNm (mOwn mi)) = some m.cls) (hK : va_K D vwCl tys s) (hP : va_P D vwCl ws H) (hD : va_D A ws) (hS0 : va_S A H0 H locs) (q0 : Nat) {fs : List Value} (he : ws[q0]? = some (a, .inr (ci, fs))) (hci : ci < 7) (k : Nat) (hk : k < cN ci) (hlink : (Cond.fieldLink (cNm (mOwn mi)) index (cT ci k).1 (cT ci k).2.1 (cT ci k).2.2.1).before args s = true)
    (hfin : (!fFin ci k || (mIni mi && decide (mOwn mi = ci))) = true) (hini : mIni mi = true → meth.name = "<init>") (_hz : True → s.vm.findClass (cNm (mOwn mi)) = some m.cls) {v : Value} (hn : narrow (fTy ci k) v = v) (hfit : fits (fTy ci k) v = true)
    (hdg : decode cc pc = .ok (.putfield index, 3)) (kk : ∀ (H1 : Heap) (locs1 : List Loc), va_P D vwCl (ws.set q0 (a, .inr (ci, fs.set k v))) H1 → va_D A (ws.set q0 (a, .inr (ci, fs.set k v))) → va_S A H0 H1 locs1 → W p l e R s m args below meth c H1 locs1 cells slots Q (F0 m (pc + 3) ls rest)) (hl : k < fs.length := by simpa using ‹_›) : W p l e R s m args below meth c H locs cells slots Q (F0 m pc ls (v :: .ref a :: rest)) := by
  by_cases hf : fFin ci k = false
  · exact va_put hexec hb hts (lay_ok ci hci) (fTy ci) (ty_ok ci hci) (nm_ok ci hci) hown hK hP hD hS0 q0 he (cl_ok ci hci) k hk hlink (fun _ h9 => h9) hf (ty_ok ci hci k hk) hn hfit hl hdg kk
  · have hf : fFin ci k = true := by simpa using hf
    rw [hf] at hfin
    simp only [Bool.not_true, Bool.false_or, Bool.and_eq_true, decide_eq_true_eq] at hfin
    exact va_putF hexec hb hts (lay_ok ci hci) (fTy ci) (ty_ok ci hci) (nm_ok ci hci) hown hK hP hD hS0 q0 he (cl_ok ci hci) k hk hlink (fun _ h9 => h9) hf (hini hfin.1) (by rw [hfin.2]; exact decl_ok ci hci k hk) (ty_ok ci hci k hk) hn hfit hl hdg kk
end APUT

set_option maxHeartbeats 4000000 in
set_option maxRecDepth 100000 in
/-- a step that goes on: the JVM goes on alike -/
theorem aStep_W {sc : Nat × (Nat → Int)} {mi pc : Nat} {lv : LV} {st : List AV} {h : AH} {q : AN} (e : aStep sc mi pc lv st h = some (.inl q))
    {p : Program} {l : Launch} {ev : Env} {R : Room} {s : State} {m : MethodId} {args : Array Value} {below : List Frame} {meth : Method} {c : Code} {D : va_G} {dA : Nat → ClassId} {b : Nat} {A : Nat → Prop} {ads : Nat → Nat} {H : Heap} {locs : List Loc} {cells slots : Nat} {Q : State → Prop} {ls : Array Slot}
    (C : aCtx p s m args meth c D dA mi) (hRf : R.frames = mFr mi) (hRl : R.locals = mLo mi) (hb0 : ads 0 = b) (hS0 : aScr sc b s A) (hA : ∀ q, s.heap.size ≤ q → A q)
    (hR : aRep D dA A s ads h H locs) (hL : aL ads (mMaxL mi) lv ls) (hV : aVs h.1.length lv st)
    (hc1 : cells + q.2.2.2.1.length ≤ R.cells + h.1.length) (hs1 : slots + aSl q.2.2.2.1 ≤ R.slots + aSl h.1) (hc2 : cells ≤ R.cells) (hs2 : slots ≤ R.slots)
    (kk : ∀ (ads2 : Nat → Nat) (H2 : Heap) (locs2 : List Loc) (ls2 : Array Slot) (cells2 slots2 : Nat), aExt h.1.length ads ads2 → aRep D dA A s ads2 q.2.2.2 H2 locs2 → aL ads2 (mMaxL mi) q.2.1 ls2 → aVs q.2.2.2.1.length q.2.1 q.2.2.1 → cells2 + h.1.length = cells + q.2.2.2.1.length → slots2 + aSl h.1 = slots + aSl q.2.2.2.1 →
      W p l ev R s m args below meth c H2 locs2 cells2 slots2 Q (F0 m q.1 ls2 (q.2.2.1.map (aV ads2)))) : W p l ev R s m args below meth c H locs cells slots Q (F0 m pc ls (st.map (aV ads))) := by
  obtain ⟨hx, hb, hml, hown, hts, hK, hini⟩ := C
  obtain ⟨hP, hD, hS, hwf⟩ := hR
  have hLh := aL_has hL
  unfold aStep at e
  split at e
  · rename_i n hd
    obtain ⟨⟨h0, h1⟩, e⟩ := bck_some e
    obtain rfl := aNext_q e
    refine lv_iconst (v := oi n) hx hb hd rfl ?_
    exact kk ads H locs ls cells slots aE1 ⟨hP, hD, hS, hwf⟩ hL (aVs_push hV ⟨by omega, by omega⟩) rfl rfl
  · rename_i n hd
    obtain ⟨⟨h0, h1⟩, e⟩ := bck_some e
    obtain rfl := aNext_q e
    refine lv_bipush (v := oi n) hx hb hd (oi_push8 h0 h1) ?_
    exact kk ads H locs ls cells slots aE1 ⟨hP, hD, hS, hwf⟩ hL (aVs_push hV ⟨by omega, by omega⟩) rfl rfl
  · rename_i n hd
    obtain ⟨⟨h0, h1⟩, e⟩ := bck_some e
    obtain rfl := aNext_q e
    refine lv_sipush (v := oi n) hx hb hd (oi_push16 h0 h1) ?_
    exact kk ads H locs ls cells slots aE1 ⟨hP, hD, hS, hwf⟩ hL (aVs_push hV ⟨by omega, by omega⟩) rfl rfl
  · rename_i i hd
    obtain ⟨n, hal, f⟩ := gO_some e
    clear e
    obtain ⟨hn, hk⟩ := kOk _ _ (alook_mem _ _ _ hal)
    obtain rfl := aNext_q f
    refine lv_ldc (own := cNm (mOwn mi)) (v := oi n) hx hb hown (hts _ hk) hd ?_
    exact kk ads H locs ls cells slots aE1 ⟨hP, hD, hS, hwf⟩ hL (aVs_push hV hn) rfl rfl
  · rename_i k hd
    obtain ⟨x, hv, e⟩ := gI_some e
    obtain rfl := aNext_q e
    refine lv_iload_n (x := oi x) hx hb hd rfl (hL.2.2.2 _ _ hv) ?_
    exact kk ads H locs ls cells slots aE1 ⟨hP, hD, hS, hwf⟩ hL (aVs_push hV (hV.2 _ _ hv)) rfl rfl
  · rename_i i hd
    obtain ⟨x, hv, e⟩ := gI_some e
    obtain rfl := aNext_q e
    refine lv_iload (x := oi x) hx hb hd (hL.2.2.2 _ _ hv) ?_
    exact kk ads H locs ls cells slots aE1 ⟨hP, hD, hS, hwf⟩ hL (aVs_push hV (hV.2 _ _ hv)) rfl rfl
  · rename_i k hd
    obtain ⟨x, hv, e⟩ := gR_some e
    obtain rfl := aNext_q e
    refine lv_aload_n (x := ads x) hx hb hd rfl (hL.2.2.2 _ _ hv) ?_
    exact kk ads H locs ls cells slots aE1 ⟨hP, hD, hS, hwf⟩ hL (aVs_push hV (hV.2 _ _ hv)) rfl rfl
  · rename_i i hd
    obtain ⟨x, hv, e⟩ := gR_some e
    obtain rfl := aNext_q e
    refine lv_aload (x := ads x) hx hb hd (hL.2.2.2 _ _ hv) ?_
    exact kk ads H locs ls cells slots aE1 ⟨hP, hD, hS, hwf⟩ hL (aVs_push hV (hV.2 _ _ hv)) rfl rfl
  · rename_i k hd
    obtain ⟨x, st', hz, f⟩ := sI_some e
    clear e
    subst hz
    have e := f
    clear f
    obtain ⟨h0, e⟩ := gd_some e
    have h0 := of_decide_eq_true h0
    obtain rfl := aNext_q e
    refine lv_istore_n (x := oi x) hx hb hd rfl hLh (by rw [← hL.1]; exact h0) rfl (fun ls2 hl2 => ?_)
    exact kk ads H locs ls2 cells slots aE1 ⟨hP, hD, hS, hwf⟩ (aL_set (w := .inl x) hL (by rw [← hL.1]; exact h0) hl2) (aVs_set (aVs_pop hV) (aVs_hd hV)) rfl rfl
  · rename_i i hd
    obtain ⟨x, st', hz, f⟩ := sI_some e
    clear e
    subst hz
    have e := f
    clear f
    obtain ⟨h0, e⟩ := gd_some e
    have h0 := of_decide_eq_true h0
    obtain rfl := aNext_q e
    refine lv_istore (x := oi x) hx hb hd hLh (by rw [← hL.1]; exact h0) rfl (fun ls2 hl2 => ?_)
    exact kk ads H locs ls2 cells slots aE1 ⟨hP, hD, hS, hwf⟩ (aL_set (w := .inl x) hL (by rw [← hL.1]; exact h0) hl2) (aVs_set (aVs_pop hV) (aVs_hd hV)) rfl rfl
  · rename_i k hd
    obtain ⟨x, st', hz, f⟩ := sR_some e
    clear e
    subst hz
    have e := f
    clear f
    obtain ⟨h0, e⟩ := gd_some e
    have h0 := of_decide_eq_true h0
    obtain rfl := aNext_q e
    refine lv_astore_n (x := ads x) hx hb hd rfl hLh (by rw [← hL.1]; exact h0) rfl (fun ls2 hl2 => ?_)
    exact kk ads H locs ls2 cells slots aE1 ⟨hP, hD, hS, hwf⟩ (aL_set (w := .inr x) hL (by rw [← hL.1]; exact h0) hl2) (aVs_set (aVs_pop hV) (aVs_hd hV)) rfl rfl
  · rename_i i hd
    obtain ⟨x, st', hz, f⟩ := sR_some e
    clear e
    subst hz
    have e := f
    clear f
    obtain ⟨h0, e⟩ := gd_some e
    have h0 := of_decide_eq_true h0
    obtain rfl := aNext_q e
    refine lv_astore (x := ads x) hx hb hd hLh (by rw [← hL.1]; exact h0) rfl (fun ls2 hl2 => ?_)
    exact kk ads H locs ls2 cells slots aE1 ⟨hP, hD, hS, hwf⟩ (aL_set (w := .inr x) hL (by rw [← hL.1]; exact h0) hl2) (aVs_set (aVs_pop hV) (aVs_hd hV)) rfl rfl
  · rename_i i n hd
    obtain ⟨x, hv, e⟩ := gI_some e
    obtain ⟨h0, e⟩ := gd_some e
    have h0 := of_decide_eq_true h0
    obtain ⟨h1, e⟩ := bck_some e
    obtain rfl := aNext_q e
    obtain ⟨k, hk⟩ := List.mem_iff_getElem?.mp (aLs_mem (q := (i, aV ads (.inl x))).mpr ⟨_, hv, rfl⟩)
    refine lv_iinc (x := oi x) (v := oi (x + n)) hx hb hd hLh hk (oi_add x n) (by rw [← hL.1]; exact h0) rfl (fun ls2 hl2 => ?_)
    exact kk ads H locs ls2 cells slots aE1 ⟨hP, hD, hS, hwf⟩ (aL_set (w := .inl (x + n)) hL (by rw [← hL.1]; exact h0) hl2) (aVs_set hV h1) rfl rfl
  · rename_i hd
    obtain ⟨y, st1, hz, f⟩ := sI_some e
    clear e
    subst hz
    have e := f
    clear f
    obtain ⟨x, st2, hz, f⟩ := sI_some e
    clear e
    subst hz
    have e := f
    clear f
    obtain ⟨h1, e⟩ := bck_some e
    obtain rfl := aNext_q e
    refine lv_iadd (x := oi x) (y := oi y) hx hb hd ?_
    rw [oi_add]
    exact kk ads H locs ls cells slots aE1 ⟨hP, hD, hS, hwf⟩ hL (aVs_push (aVs_pop (aVs_pop hV)) h1) rfl rfl
  · rename_i hd
    obtain ⟨y, st1, hz, f⟩ := sI_some e
    clear e
    subst hz
    have e := f
    clear f
    obtain ⟨x, st2, hz, f⟩ := sI_some e
    clear e
    subst hz
    have e := f
    clear f
    obtain ⟨h1, e⟩ := bck_some e
    obtain rfl := aNext_q e
    refine lv_isub (x := oi x) (y := oi y) hx hb hd ?_
    rw [oi_sub]
    exact kk ads H locs ls cells slots aE1 ⟨hP, hD, hS, hwf⟩ hL (aVs_push (aVs_pop (aVs_pop hV)) h1) rfl rfl
  · rename_i hd
    obtain ⟨y, st1, hz, f⟩ := sI_some e
    clear e
    subst hz
    have e := f
    clear f
    obtain ⟨x, st2, hz, f⟩ := sI_some e
    clear e
    subst hz
    have e := f
    clear f
    obtain ⟨h1, e⟩ := bck_some e
    obtain rfl := aNext_q e
    refine lv_imul (x := oi x) (y := oi y) hx hb hd ?_
    rw [oi_mul]
    exact kk ads H locs ls cells slots aE1 ⟨hP, hD, hS, hwf⟩ hL (aVs_push (aVs_pop (aVs_pop hV)) h1) rfl rfl
  · rename_i hd
    obtain ⟨y, st1, hz, f⟩ := sI_some e
    clear e
    subst hz
    have e := f
    clear f
    obtain ⟨x, st2, hz, f⟩ := sI_some e
    clear e
    subst hz
    have e := f
    clear f
    obtain ⟨h1, e⟩ := bck_some e
    obtain ⟨h2, e⟩ := bck_some e
    obtain rfl := aNext_q e
    refine lv_idiv (x := oi x) (y := oi y) hx hb hd (fun z => by have := (oi_eq (x := y) (y := 0) ⟨by omega, by omega⟩ ⟨by omega, by omega⟩).mp z; omega) ?_
    rw [oi_div h2.1 h2.2 h1.1 h1.2]
    exact kk ads H locs ls cells slots aE1 ⟨hP, hD, hS, hwf⟩ hL (aVs_push (aVs_pop (aVs_pop hV)) ⟨by have := Int.ediv_nonneg h2.1 (show 0 ≤ y by omega); omega, by have := Int.ediv_le_self y h2.1; omega⟩) rfl rfl
  · rename_i hd
    obtain ⟨y, st1, hz, f⟩ := sI_some e
    clear e
    subst hz
    have e := f
    clear f
    obtain ⟨x, st2, hz, f⟩ := sI_some e
    clear e
    subst hz
    have e := f
    clear f
    obtain ⟨h1, e⟩ := bck_some e
    obtain ⟨h2, e⟩ := bck_some e
    obtain rfl := aNext_q e
    refine lv_irem (x := oi x) (y := oi y) hx hb hd (fun z => by have := (oi_eq (x := y) (y := 0) ⟨by omega, by omega⟩ ⟨by omega, by omega⟩).mp z; omega) ?_
    rw [oi_rem h2.1 h2.2 h1.1 h1.2]
    exact kk ads H locs ls cells slots aE1 ⟨hP, hD, hS, hwf⟩ hL (aVs_push (aVs_pop (aVs_pop hV)) ⟨by have := Int.emod_nonneg x (show y ≠ 0 by omega); omega, by have := Int.emod_lt_of_pos x (show 0 < y by omega); omega⟩) rfl rfl
  · rename_i hd
    obtain ⟨x, st1, hz, f⟩ := sI_some e
    clear e
    subst hz
    have e := f
    clear f
    obtain ⟨h1, e⟩ := bck_some e
    obtain rfl := aNext_q e
    refine lv_ineg (x := oi x) hx hb hd ?_
    rw [oi_neg]
    exact kk ads H locs ls cells slots aE1 ⟨hP, hD, hS, hwf⟩ hL (aVs_push (aVs_pop hV) h1) rfl rfl
  · rename_i hd
    obtain ⟨y, st1, hz, f⟩ := sI_some e
    clear e
    subst hz
    have e := f
    clear f
    obtain ⟨x, st2, hz, f⟩ := sI_some e
    clear e
    subst hz
    have e := f
    clear f
    obtain ⟨h1, e⟩ := gd_some e
    have h1 := of_decide_eq_true h1
    obtain rfl := aNext_q e
    refine lv_iand (x := oi x) (y := oi y) hx hb hd ?_
    have hz : oi x &&& oi y = oi (x % (y + 1)) := by
      rcases h1 with rfl | rfl | rfl | rfl
      · exact oi_and1 x
      · exact oi_and3 x
      · exact oi_and31 x
      · exact oi_andM x
    rw [hz]
    exact kk ads H locs ls cells slots aE1 ⟨hP, hD, hS, hwf⟩ hL (aVs_push (aVs_pop (aVs_pop hV)) (by rcases h1 with rfl | rfl | rfl | rfl <;> exact ⟨by omega, by omega⟩)) rfl rfl
  · rename_i hd
    obtain ⟨y, st1, hz, f⟩ := sI_some e
    clear e
    subst hz
    have e := f
    clear f
    obtain ⟨x, st2, hz, f⟩ := sI_some e
    clear e
    subst hz
    have e := f
    clear f
    obtain ⟨h1, e⟩ := bck_some e
    obtain ⟨h2, e⟩ := bck_some e
    obtain rfl := aNext_q e
    refine lv_ior (x := oi x) (y := oi y) hx hb hd ?_
    rw [oi_or h2.1 h2.2 h1.1 h1.2]
    exact kk ads H locs ls cells slots aE1 ⟨hP, hD, hS, hwf⟩ hL (aVs_push (aVs_pop (aVs_pop hV)) (by have := or_lt (x := x.toNat) (y := y.toNat) (by omega) (by omega); exact ⟨by omega, by omega⟩)) rfl rfl
  · rename_i hd
    obtain ⟨y, st1, hz, f⟩ := sI_some e
    clear e
    subst hz
    have e := f
    clear f
    obtain ⟨x, st2, hz, f⟩ := sI_some e
    clear e
    subst hz
    have e := f
    clear f
    obtain ⟨h0, e⟩ := gd_some e
    obtain rfl := of_decide_eq_true h0
    obtain ⟨h1, e⟩ := bck_some e
    obtain rfl := aNext_q e
    refine lv_ishl (x := oi 1) (y := oi y) hx hb hd ?_
    rw [oi_shl h1.1 h1.2]
    exact kk ads H locs ls cells slots aE1 ⟨hP, hD, hS, hwf⟩ hL (aVs_push (aVs_pop (aVs_pop hV)) (by have h9 := pow_le64 (y := y.toNat) (by omega); generalize 2 ^ y.toNat = z at h9 ⊢; exact ⟨by omega, by omega⟩)) rfl rfl
  · rename_i hd
    obtain ⟨y, st1, hz, f⟩ := sI_some e
    clear e
    subst hz
    have e := f
    clear f
    obtain ⟨x, st2, hz, f⟩ := sI_some e
    clear e
    subst hz
    have e := f
    clear f
    obtain ⟨h1, e⟩ := bck_some e
    obtain rfl := aNext_q e
    have h2 : in32 x := aVs_hd (aVs_pop hV)
    refine lv_ishr (x := oi x) (y := oi y) hx hb hd ?_
    rw [oi_shr h2 h1.1 h1.2]
    exact kk ads H locs ls cells slots aE1 ⟨hP, hD, hS, hwf⟩ hL (aVs_push (aVs_pop (aVs_pop hV)) (shr_b h2)) rfl rfl
  · rename_i hd
    obtain ⟨x, st1, hz, f⟩ := sI_some e
    clear e
    subst hz
    have e := f
    clear f
    obtain rfl := aNext_q e
    refine lv_i2c (x := oi x) (v := oi (x % 65536)) hx hb hd (oi_i2c x) ?_
    exact kk ads H locs ls cells slots aE1 ⟨hP, hD, hS, hwf⟩ hL (aVs_push (aVs_pop hV) ⟨by omega, by omega⟩) rfl rfl
  · rename_i hd
    split at e
    · rename_i v st1
      obtain rfl := aNext_q e
      refine lv_dup hx hb hd (aV_cat ads v) ?_
      exact kk ads H locs ls cells slots aE1 ⟨hP, hD, hS, hwf⟩ hL (aVs_push hV (aVs_hd hV)) rfl rfl
    · cases e
  · rename_i hd
    split at e
    · rename_i v st1
      obtain rfl := aNext_q e
      refine lv_pop hx hb hd (aV_cat ads v) ?_
      exact kk ads H locs ls cells slots aE1 ⟨hP, hD, hS, hwf⟩ hL (aVs_pop hV) rfl rfl
    · cases e
  · rename_i hd
    split at e
    · rename_i v w st1
      obtain rfl := aNext_q e
      refine lv_dup2_11 hx hb hd (aV_cat ads v) (aV_cat ads w) ?_
      exact kk ads H locs ls cells slots aE1 ⟨hP, hD, hS, hwf⟩ hL (aVs_push (aVs_push hV (aVs_hd (aVs_pop hV))) (aVs_hd hV)) rfl rfl
    · cases e
  · rename_i o hd
    obtain ⟨t, ht, e⟩ := jmp_some e
    obtain rfl := aNext_q e
    refine lv_goto hx hb hd ht ?_
    exact kk ads H locs ls cells slots aE1 ⟨hP, hD, hS, hwf⟩ hL hV rfl rfl
  · rename_i cd o hd
    obtain ⟨x, st1, hz, f⟩ := sI_some e
    clear e
    subst hz
    have e := f
    clear f
    obtain ⟨t, ht, e⟩ := jmp_some e
    refine a_if (x := x) hx hb hd ht (aVs_hd hV) (fun hc => ?_) (fun hc => ?_)
    · rw [if_pos hc] at e
      obtain rfl := aNext_q e
      exact kk ads H locs ls cells slots aE1 ⟨hP, hD, hS, hwf⟩ hL (aVs_pop hV) rfl rfl
    · rw [if_neg hc] at e
      obtain rfl := aNext_q e
      exact kk ads H locs ls cells slots aE1 ⟨hP, hD, hS, hwf⟩ hL (aVs_pop hV) rfl rfl
  · rename_i cd o hd
    obtain ⟨y, st1, hz, f⟩ := sI_some e
    clear e
    subst hz
    have e := f
    clear f
    obtain ⟨x, st2, hz, f⟩ := sI_some e
    clear e
    subst hz
    have e := f
    clear f
    obtain ⟨t, ht, e⟩ := jmp_some e
    refine a_icmp (x := x) (y := y) hx hb hd ht (aVs_hd (aVs_pop hV)) (aVs_hd hV) (fun hc => ?_) (fun hc => ?_)
    · rw [if_pos hc] at e
      obtain rfl := aNext_q e
      exact kk ads H locs ls cells slots aE1 ⟨hP, hD, hS, hwf⟩ hL (aVs_pop (aVs_pop hV)) rfl rfl
    · rw [if_neg hc] at e
      obtain rfl := aNext_q e
      exact kk ads H locs ls cells slots aE1 ⟨hP, hD, hS, hwf⟩ hL (aVs_pop (aVs_pop hV)) rfl rfl
  · rename_i d lo hi os len hd
    obtain ⟨x, st1, hz, f⟩ := sI_some e
    clear e
    subst hz
    have e := f
    clear f
    by_cases hc : x < lo ∨ hi < x
    · rw [if_pos hc] at e
      obtain ⟨t, ht, e⟩ := jmp_some e
      obtain rfl := aNext_q e
      refine lv_tableOut (x := oi x) hx hb hd (by rw [oi_toInt (aVs_hd hV)]; exact hc) ht ?_
      exact kk ads H locs ls cells slots aE1 ⟨hP, hD, hS, hwf⟩ hL (aVs_pop hV) rfl rfl
    · rw [if_neg hc] at e
      obtain ⟨o, ho, e⟩ := gO_some e
      obtain ⟨t, ht, e⟩ := jmp_some e
      obtain rfl := aNext_q e
      refine lv_tableIn (x := oi x) (off := o) hx hb hd (by rw [oi_toInt (aVs_hd hV)]; exact fun z => hc (Or.inl z)) (by rw [oi_toInt (aVs_hd hV)]; exact fun z => hc (Or.inr z)) (by rw [oi_toInt (aVs_hd hV)]; exact ho) ht ?_
      exact kk ads H locs ls cells slots aE1 ⟨hP, hD, hS, hwf⟩ hL (aVs_pop hV) rfl rfl
  · rename_i i hd
    obtain ⟨⟨ci, k⟩, hq, e⟩ := gO_some e
    obtain ⟨a, st1, hz, f⟩ := sR_some e
    clear e
    subst hz
    have e := f
    clear f
    obtain ⟨b1, n, hz, hcell, f⟩ := isA_some e
    clear e
    subst hz
    have e := f
    clear f
    obtain ⟨⟨hci, hk⟩, hlink⟩ := fOk _ _ (alook_mem _ _ _ hq)
    dsimp only at hci hk hlink e
    have hw := aW_get (dA := dA) (ads := ads) hcell
    rw [aE_obj hci] at hw
    refine va_get (D := D) (ci := ci) (v := aFv ads h (b1 + 1) ci k) (C := cNm ci) (T := cT ci) (N := cN ci) hx hb hts (lay_ok ci hci) hown hK.1 hP b1 hw (cl_ok ci hci) k hk (hts _ hlink) (fun _ h9 => h9) (by rw [List.getElem?_map, List.getElem?_range hk]; rfl) hd ?_
    by_cases hr : fRef ci k = true
    · rw [if_pos hr] at e
      obtain ⟨h0, e⟩ := gd_some e
      have h0 := of_decide_eq_true h0
      obtain rfl := aNext_q e
      have hv : aFv ads h (b1 + 1) ci k = aV ads (.inr (h.2.1 (b1 + 1) k)) := by unfold aFv; rw [if_pos hr]; unfold aO; rw [if_neg h0]; rfl
      rw [hv]
      exact kk ads H locs ls cells slots aE1 ⟨hP, hD, hS, hwf⟩ hL (aVs_push (aVs_pop hV) (hwf.2.1 _ _)) rfl rfl
    · rw [if_neg hr] at e
      obtain rfl := aNext_q e
      have hv : aFv ads h (b1 + 1) ci k = aV ads (.inl (h.2.2 (b1 + 1) k)) := by unfold aFv; rw [if_neg hr]; rfl
      rw [hv]
      exact kk ads H locs ls cells slots aE1 ⟨hP, hD, hS, hwf⟩ hL (aVs_push (aVs_pop hV) (hwf.1 _ _)) rfl rfl
  · rename_i i hd
    obtain ⟨⟨ci, k⟩, hq, e⟩ := gO_some e
    obtain ⟨hfin, e⟩ := gd_some e
    obtain ⟨⟨hci, hk⟩, hlink⟩ := fOk _ _ (alook_mem _ _ _ hq)
    dsimp only at hci hk hlink e hfin
    by_cases hr : fRef ci k = true
    · rw [if_pos hr] at e
      obtain ⟨v, st1, hz, f⟩ := sR_some e
      clear e
      subst hz
      have e := f
      clear f
      obtain ⟨a, st2, hz, f⟩ := sR_some e
      clear e
      subst hz
      have e := f
      clear f
      obtain ⟨h0, e⟩ := gd_some e
      have h0 := of_decide_eq_true h0
      obtain ⟨b1, n, hz, hcell, f⟩ := isA_some e
      clear e
      subst hz
      have e := f
      clear f
      obtain rfl := aNext_q e
      have hw := aW_get (dA := dA) (ads := ads) hcell
      rw [aE_obj hci] at hw
      have hset := aW_set (dA := dA) (ads := ads) (h := h) (h2 := (h.1, setR h.2.1 (b1 + 1) k v, h.2.2)) hcell rfl (fun _ _ _ => rfl) (fun k2 j hne => if_neg (fun z => hne z.1))
      rw [aE_obj hci, aFs_set (v := .ref (ads v)) (k := k) (ads := ads) (h := h) (by unfold aFv; rw [if_pos hr]; show va_rf (aO ads (if _ then v else _)) = _; rw [if_pos ⟨rfl, rfl⟩]; unfold aO; rw [if_neg h0]; rfl) (fun j hj => by unfold aFv; dsimp only; rw [show (setR h.2.1 (b1 + 1) k v) (b1 + 1) j = h.2.1 (b1 + 1) j from if_neg (fun z => hj z.2)])] at hset
      refine a_put hx hb hts hown hK.1 hP hD hS b1 hw hci k hk (hts _ hlink) hfin hini (fun z => hown) (v := .ref (ads v)) (a_narrow_ref hr) (a_fits_ref hr) hd (fun H2 locs2 hP2 hD2 hS2 => ?_)
      rw [← hset] at hP2 hD2
      have hvk : v ≤ h.1.length := aVs_hd hV
      exact kk ads H2 locs2 ls cells slots aE1 ⟨hP2, hD2, hS2, hwf.1, fun k2 j => by show (if _ then v else _) ≤ h.1.length; split; exact hvk; exact hwf.2.1 k2 j, fun k2 j hl => ⟨(hwf.2.2 k2 j hl).1, by show (if _ then v else _) = 0; rw [if_neg (fun z => by have h9 := (List.getElem?_eq_some_iff.mp hcell).1; have h8 := z.1; have h7 : h.1.length < k2 := hl; omega)]; exact (hwf.2.2 k2 j hl).2⟩⟩ hL (aVs_pop (aVs_pop hV)) rfl rfl
    · rw [if_neg hr] at e
      obtain ⟨x, st1, hz, f⟩ := sI_some e
      clear e
      subst hz
      have e := f
      clear f
      obtain ⟨a, st2, hz, f⟩ := sR_some e
      clear e
      subst hz
      have e := f
      clear f
      obtain ⟨h1, e⟩ := bck_some e
      obtain ⟨b1, n, hz, hcell, f⟩ := isA_some e
      clear e
      subst hz
      have e := f
      clear f
      obtain rfl := aNext_q e
      have hw := aW_get (dA := dA) (ads := ads) hcell
      rw [aE_obj hci] at hw
      have hset := aW_set (dA := dA) (ads := ads) (h := h) (h2 := (h.1, h.2.1, setO h.2.2 (b1 + 1) (upI (h.2.2 (b1 + 1)) k x))) hcell rfl (fun k2 j hne => by show setO _ _ _ _ _ = _; unfold setO; rw [if_neg hne]) (fun _ _ _ => rfl)
      rw [aE_obj hci, aFs_set (v := .int (oi x)) (k := k) (ads := ads) (h := h) (by unfold aFv; rw [if_neg hr]; show Value.int (oi (setO _ _ _ _ _)) = _; unfold setO upI; rw [if_pos rfl, if_pos rfl]) (fun j hj => by unfold aFv; dsimp only; rw [show (setO h.2.2 (b1 + 1) (upI (h.2.2 (b1 + 1)) k x)) (b1 + 1) j = h.2.2 (b1 + 1) j from by unfold setO upI; rw [if_pos rfl, if_neg hj]])] at hset
      have hx32 : in32 x := aVs_hd hV
      refine a_put hx hb hts hown hK.1 hP hD hS b1 hw hci k hk (hts _ hlink) hfin hini (fun z => hown) (v := .int (oi x)) (a_narrow_int hci hk hr h1) (a_fits_int hci hk hr h1) hd (fun H2 locs2 hP2 hD2 hS2 => ?_)
      rw [← hset] at hP2 hD2
      exact kk ads H2 locs2 ls cells slots aE1 ⟨hP2, hD2, hS2, aWf_int hwf hcell hx32⟩ hL (aVs_pop (aVs_pop hV)) rfl rfl
  · rename_i hd
    obtain ⟨i, st1, hz, f⟩ := sI_some e
    clear e
    subst hz
    have e := f
    clear f
    obtain ⟨a, st2, hz, f⟩ := sR_some e
    clear e
    subst hz
    have e := f
    clear f
    by_cases ha : a = 0
    · rw [if_pos ha] at e
      subst ha
      obtain ⟨h1, e⟩ := bck_some e
      obtain rfl := aNext_q e
      obtain ⟨xs, g1, g2, g3, g4, g5⟩ := hS0
      have hi32 : in32 i := aVs_hd hV
      show W p l ev R s m args below meth c H locs cells slots Q (F0 m pc ls (.int (oi i) :: .ref (ads 0) :: st2.map (aV ads)))
      rw [hb0]
      refine va_sld (i := oi i) hx hb g1 g2 g3 hS (oi_vpin h1.1 hi32.2 h1.2) hd ?_
      rw [oi_nat h1.1 hi32.2, (g5 _).2]
      exact kk ads H locs ls cells slots aE1 ⟨hP, hD, hS, hwf⟩ hL (aVs_push (aVs_pop (aVs_pop hV)) (g5 _).1) rfl rfl
    · rw [if_neg ha] at e
      obtain ⟨b1, n, hz, hcell, f⟩ := isA_some e
      clear e
      subst hz
      have e := f
      clear f
      obtain ⟨h1, e⟩ := bck_some e
      obtain rfl := aNext_q e
      have hw := aW_get (dA := dA) (ads := ads) hcell
      rw [aE_ints (by omega) (by omega)] at hw
      have hi32 : in32 i := aVs_hd hV
      refine va_iald (i := oi i) hx hb hK.1 hP b1 0 hw rfl (oi_vpin h1.1 hi32.2 h1.2) hd ?_
      rw [oi_nat h1.1 hi32.2]
      exact kk ads H locs ls cells slots aE1 ⟨hP, hD, hS, hwf⟩ hL (aVs_push (aVs_pop (aVs_pop hV)) (hwf.1 _ _)) rfl rfl
  · rename_i hd
    obtain ⟨i, st1, hz, f⟩ := sI_some e
    clear e
    subst hz
    have e := f
    clear f
    obtain ⟨a, st2, hz, f⟩ := sR_some e
    clear e
    subst hz
    have e := f
    clear f
    obtain ⟨b1, n, hz, hcell, f⟩ := isA_some e
    clear e
    subst hz
    have e := f
    clear f
    obtain ⟨h1, e⟩ := bck_some e
    obtain rfl := aNext_q e
    have hw := aW_get (dA := dA) (ads := ads) hcell
    rw [aE_ints (by omega) (by omega)] at hw
    have hi32 : in32 i := aVs_hd hV
    refine va_zald (i := oi i) hx hb hK.1 hP b1 1 hw rfl (oi_vpin h1.1 hi32.2 h1.2) hd ?_
    rw [oi_nat h1.1 hi32.2]
    exact kk ads H locs ls cells slots aE1 ⟨hP, hD, hS, hwf⟩ hL (aVs_push (aVs_pop (aVs_pop hV)) (hwf.1 _ _)) rfl rfl
  · rename_i hd
    obtain ⟨i, st1, hz, f⟩ := sI_some e
    clear e
    subst hz
    have e := f
    clear f
    obtain ⟨a, st2, hz, f⟩ := sR_some e
    clear e
    subst hz
    have e := f
    clear f
    obtain ⟨b1, n, hz, hcell, f⟩ := isA_some e
    clear e
    subst hz
    have e := f
    clear f
    obtain ⟨h1, e⟩ := bck_some e
    obtain rfl := aNext_q e
    have hw := aW_get (dA := dA) (ads := ads) hcell
    rw [aE_ints (by omega) (by omega)] at hw
    have hi32 : in32 i := aVs_hd hV
    refine va_cald (i := oi i) hx hb hK.1 hP b1 2 hw rfl (oi_vpin h1.1 hi32.2 h1.2) hd ?_
    rw [oi_nat h1.1 hi32.2]
    exact kk ads H locs ls cells slots aE1 ⟨hP, hD, hS, hwf⟩ hL (aVs_push (aVs_pop (aVs_pop hV)) (hwf.1 _ _)) rfl rfl
  · rename_i hd
    obtain ⟨i, st1, hz, f⟩ := sI_some e
    clear e
    subst hz
    have e := f
    clear f
    obtain ⟨a, st2, hz, f⟩ := sR_some e
    clear e
    subst hz
    have e := f
    clear f
    obtain ⟨b1, n, hz, hcell, f⟩ := isA_some e
    clear e
    subst hz
    have e := f
    clear f
    obtain ⟨h1, e⟩ := bck_some e
    obtain ⟨h0, e⟩ := gd_some e
    have h0 := of_decide_eq_true h0
    obtain rfl := aNext_q e
    have hw := aW_get (dA := dA) (ads := ads) hcell
    rw [aE_refs] at hw
    have hi32 : in32 i := aVs_hd hV
    refine va_aldq (C := RX2) (i := oi i) hx hb hK.1 hP b1 3 hw rfl (oi_vpin h1.1 hi32.2 h1.2) hd ?_
    rw [oi_nat h1.1 hi32.2]
    have hv : va_rf (aO ads (h.2.1 (b1 + 1) i.toNat)) = aV ads (.inr (h.2.1 (b1 + 1) i.toNat)) := by unfold aO; rw [if_neg h0]; rfl
    rw [hv]
    exact kk ads H locs ls cells slots aE1 ⟨hP, hD, hS, hwf⟩ hL (aVs_push (aVs_pop (aVs_pop hV)) (hwf.2.1 _ _)) rfl rfl
  · rename_i hd
    obtain ⟨x, st0, hz, f⟩ := sI_some e
    clear e
    subst hz
    have e := f
    clear f
    obtain ⟨i, st1, hz, f⟩ := sI_some e
    clear e
    subst hz
    have e := f
    clear f
    obtain ⟨a, st2, hz, f⟩ := sR_some e
    clear e
    subst hz
    have e := f
    clear f
    obtain ⟨b1, n, hz, hcell, f⟩ := isA_some e
    clear e
    subst hz
    have e := f
    clear f
    obtain ⟨h1, e⟩ := bck_some e
    obtain ⟨h2, e⟩ := bck_some e
    obtain rfl := aNext_q e
    have hw := aW_get (dA := dA) (ads := ads) hcell
    rw [aE_ints (by omega) (by omega)] at hw
    have hx32 : in32 x := aVs_hd hV
    have hi32 : in32 i := aVs_hd (aVs_pop hV)
    have hset := aW_set (dA := dA) (ads := ads) (h := h) (h2 := (h.1, h.2.1, setO h.2.2 (b1 + 1) (upI (h.2.2 (b1 + 1)) i.toNat x))) hcell rfl (fun k2 j hne => by show setO _ _ _ _ _ = _; unfold setO; rw [if_neg hne]) (fun _ _ _ => rfl)
    rw [aE_ints (by omega) (by omega)] at hset
    have hfn : (fun j => oi ((setO h.2.2 (b1 + 1) (upI (h.2.2 (b1 + 1)) i.toNat x)) (b1 + 1) j)) = upd (fun j => oi (h.2.2 (b1 + 1) j)) i.toNat (oi x) := by
      funext j
      unfold setO upI upd
      rw [if_pos rfl]
      by_cases hj : j = i.toNat
      · rw [if_pos hj, if_pos hj]
      · rw [if_neg hj, if_neg hj]
    dsimp only at hset
    rw [hfn] at hset
    refine va_iast (x := oi x) (i := oi i) hx hb hK.1 hP hD hS b1 0 hw rfl (oi_vpin h1.1 hi32.2 h1.2) hd (fun H2 locs2 hP2 hD2 hS2 => ?_)
    rw [oi_nat h1.1 hi32.2] at hP2 hD2
    rw [← hset] at hP2 hD2
    exact kk ads H2 locs2 ls cells slots aE1 ⟨hP2, hD2, hS2, aWf_int hwf hcell hx32⟩ hL (aVs_pop (aVs_pop (aVs_pop hV))) rfl rfl
  · rename_i hd
    obtain ⟨x, st0, hz, f⟩ := sI_some e
    clear e
    subst hz
    have e := f
    clear f
    obtain ⟨i, st1, hz, f⟩ := sI_some e
    clear e
    subst hz
    have e := f
    clear f
    obtain ⟨a, st2, hz, f⟩ := sR_some e
    clear e
    subst hz
    have e := f
    clear f
    obtain ⟨b1, n, hz, hcell, f⟩ := isA_some e
    clear e
    subst hz
    have e := f
    clear f
    obtain ⟨h1, e⟩ := bck_some e
    obtain ⟨h2, e⟩ := bck_some e
    obtain rfl := aNext_q e
    have hw := aW_get (dA := dA) (ads := ads) hcell
    rw [aE_ints (by omega) (by omega)] at hw
    have hx32 : in32 x := aVs_hd hV
    have hi32 : in32 i := aVs_hd (aVs_pop hV)
    have hset := aW_set (dA := dA) (ads := ads) (h := h) (h2 := (h.1, h.2.1, setO h.2.2 (b1 + 1) (upI (h.2.2 (b1 + 1)) i.toNat x))) hcell rfl (fun k2 j hne => by show setO _ _ _ _ _ = _; unfold setO; rw [if_neg hne]) (fun _ _ _ => rfl)
    rw [aE_ints (by omega) (by omega)] at hset
    have hfn : (fun j => oi ((setO h.2.2 (b1 + 1) (upI (h.2.2 (b1 + 1)) i.toNat x)) (b1 + 1) j)) = upd (fun j => oi (h.2.2 (b1 + 1) j)) i.toNat (oi x) := by
      funext j
      unfold setO upI upd
      rw [if_pos rfl]
      by_cases hj : j = i.toNat
      · rw [if_pos hj, if_pos hj]
      · rw [if_neg hj, if_neg hj]
    dsimp only at hset
    rw [hfn] at hset
    have hn9 : vp_nar .boolean (oi x) = oi x := by unfold vp_nar; rw [oi_nar_bool h2.1 h2.2]
    refine va_zast (x := oi x) (i := oi i) hx hb hK.1 hP hD hS b1 1 hw rfl (oi_vpin h1.1 hi32.2 h1.2) hd (fun H2 locs2 hP2 hD2 hS2 => ?_)
    rw [oi_nat h1.1 hi32.2] at hP2 hD2
    rw [hn9] at hP2 hD2
    rw [← hset] at hP2 hD2
    exact kk ads H2 locs2 ls cells slots aE1 ⟨hP2, hD2, hS2, aWf_int hwf hcell hx32⟩ hL (aVs_pop (aVs_pop (aVs_pop hV))) rfl rfl
  · rename_i hd
    obtain ⟨x, st0, hz, f⟩ := sI_some e
    clear e
    subst hz
    have e := f
    clear f
    obtain ⟨i, st1, hz, f⟩ := sI_some e
    clear e
    subst hz
    have e := f
    clear f
    obtain ⟨a, st2, hz, f⟩ := sR_some e
    clear e
    subst hz
    have e := f
    clear f
    obtain ⟨b1, n, hz, hcell, f⟩ := isA_some e
    clear e
    subst hz
    have e := f
    clear f
    obtain ⟨h1, e⟩ := bck_some e
    obtain ⟨h2, e⟩ := bck_some e
    obtain rfl := aNext_q e
    have hw := aW_get (dA := dA) (ads := ads) hcell
    rw [aE_ints (by omega) (by omega)] at hw
    have hx32 : in32 x := aVs_hd hV
    have hi32 : in32 i := aVs_hd (aVs_pop hV)
    have hset := aW_set (dA := dA) (ads := ads) (h := h) (h2 := (h.1, h.2.1, setO h.2.2 (b1 + 1) (upI (h.2.2 (b1 + 1)) i.toNat x))) hcell rfl (fun k2 j hne => by show setO _ _ _ _ _ = _; unfold setO; rw [if_neg hne]) (fun _ _ _ => rfl)
    rw [aE_ints (by omega) (by omega)] at hset
    have hfn : (fun j => oi ((setO h.2.2 (b1 + 1) (upI (h.2.2 (b1 + 1)) i.toNat x)) (b1 + 1) j)) = upd (fun j => oi (h.2.2 (b1 + 1) j)) i.toNat (oi x) := by
      funext j
      unfold setO upI upd
      rw [if_pos rfl]
      by_cases hj : j = i.toNat
      · rw [if_pos hj, if_pos hj]
      · rw [if_neg hj, if_neg hj]
    dsimp only at hset
    rw [hfn] at hset
    have hn9 : vp_nar .char (oi x) = oi x := by unfold vp_nar; rw [oi_nar_char h2.1 h2.2]
    refine va_cast (x := oi x) (i := oi i) hx hb hK.1 hP hD hS b1 2 hw rfl (oi_vpin h1.1 hi32.2 h1.2) hd (fun H2 locs2 hP2 hD2 hS2 => ?_)
    rw [oi_nat h1.1 hi32.2] at hP2 hD2
    rw [hn9] at hP2 hD2
    rw [← hset] at hP2 hD2
    exact kk ads H2 locs2 ls cells slots aE1 ⟨hP2, hD2, hS2, aWf_int hwf hcell hx32⟩ hL (aVs_pop (aVs_pop (aVs_pop hV))) rfl rfl
  · rename_i hd
    obtain ⟨v, st0, hz, f⟩ := sR_some e
    clear e
    subst hz
    have e := f
    clear f
    obtain ⟨i, st1, hz, f⟩ := sI_some e
    clear e
    subst hz
    have e := f
    clear f
    obtain ⟨a, st2, hz, f⟩ := sR_some e
    clear e
    subst hz
    have e := f
    clear f
    obtain ⟨bv, nv, hz, hcv, f⟩ := isA_some e
    clear e
    subst hz
    have e := f
    clear f
    obtain ⟨b1, n, hz, hcell, f⟩ := isA_some e
    clear e
    subst hz
    have e := f
    clear f
    obtain ⟨h1, e⟩ := bck_some e
    obtain rfl := aNext_q e
    have hw := aW_get (dA := dA) (ads := ads) hcell
    rw [aE_refs] at hw
    have hwv := aW_get (dA := dA) (ads := ads) hcv
    rw [aE_obj (by omega)] at hwv
    have hi32 : in32 i := aVs_hd (aVs_pop hV)
    have hset := aW_set (dA := dA) (ads := ads) (h := h) (h2 := (h.1, setR h.2.1 (b1 + 1) i.toNat (bv + 1), h.2.2)) hcell rfl (fun _ _ _ => rfl) (fun k2 j hne => if_neg (fun z => hne z.1))
    rw [aE_refs] at hset
    have hfn : (fun j => aO ads ((setR h.2.1 (b1 + 1) i.toNat (bv + 1)) (b1 + 1) j)) = va_up (fun j => aO ads (h.2.1 (b1 + 1) j)) i.toNat (some (ads (bv + 1))) := by
      funext j
      unfold setR va_up
      by_cases hj : j = i.toNat
      · rw [if_pos ⟨rfl, hj⟩, if_pos hj]; rfl
      · rw [if_neg (fun z => hj z.2), if_neg hj]
    dsimp only at hset
    rw [hfn] at hset
    refine va_astq (i := oi i) hx hb hK.1 hP hD hS b1 3 bv 2 hw rfl hwv (cl_ok 2 (by omega)) (oi_vpin h1.1 hi32.2 h1.2) hd (fun H2 locs2 hP2 hD2 hS2 => ?_)
    rw [oi_nat h1.1 hi32.2] at hP2 hD2
    rw [← hset] at hP2 hD2
    have hvk : bv + 1 ≤ h.1.length := aVs_hd hV
    exact kk ads H2 locs2 ls cells slots aE1 ⟨hP2, hD2, hS2, hwf.1, fun k2 j => by show (if _ then bv + 1 else _) ≤ h.1.length; split; exact hvk; exact hwf.2.1 k2 j, fun k2 j hl => ⟨(hwf.2.2 k2 j hl).1, by show (if _ then bv + 1 else _) = 0; rw [if_neg (fun z => by have h9 := (List.getElem?_eq_some_iff.mp hcell).1; have h8 := z.1; have h7 : h.1.length < k2 := hl; omega)]; exact (hwf.2.2 k2 j hl).2⟩⟩ hL (aVs_pop (aVs_pop (aVs_pop hV))) rfl rfl
  · rename_i hd
    obtain ⟨a, st1, hz, f⟩ := sR_some e
    clear e
    subst hz
    have e := f
    clear f
    obtain ⟨h0, f⟩ := gd_some e
    clear e
    obtain rfl := of_decide_eq_true h0
    obtain rfl := aNext_q f
    obtain ⟨xs, g1, g2, g3, g4, g5⟩ := hS0
    show W p l ev R s m args below meth c H locs cells slots Q (F0 m pc ls (.ref (ads 0) :: st1.map (aV ads)))
    rw [hb0]
    refine va_slen hx hb g1 g2 g3 hS hd ?_
    exact kk ads H locs ls cells slots aE1 ⟨hP, hD, hS, hwf⟩ hL (aVs_push (aVs_pop hV) (show in32 (sc.1 : Int) from ⟨by omega, by omega⟩)) rfl rfl
  · rename_i i hd
    obtain ⟨o, hq, e⟩ := gO_some e
    obtain rfl := aNext_q e
    obtain ⟨ho, hlink⟩ := nOk _ _ (alook_mem _ _ _ hq)
    dsimp only at ho hlink
    have hlen : (h.1 ++ [(o, cN o)]).length = h.1.length + 1 := by rw [List.length_append, List.length_singleton]
    have hsl : aSl (h.1 ++ [(o, cN o)]) = aSl h.1 + cN o := by simp [aSl]
    dsimp only at hc1 hs1
    refine va_new (D := D) (ci := o) (fs := (List.range (cN o)).map (aFv ads h (h.1.length + 1) o)) (C := cNm o) (T := cT o) (N := cN o) hx hb hts (lay_ok o ho) (fTy o) (ty_ok o ho) hown (hts _ hlink) (hts _ (inst_ok o ho).1) (hts _ (inst_ok o ho).2) hK.1 hP hD hS hA (cl_ok o ho) (fun j hj => a_born ho hj hwf) (by omega) (by omega) hd (fun x H2 hP2 hD2 hS2 => ?_)
    have hp := aW_push (dA := dA) (ads := ads) hwf x (o, cN o)
    rw [aE_obj ho] at hp
    rw [← hp] at hP2 hD2
    have hex : aExt h.1.length ads (fun k => if k = h.1.length + 1 then x else ads k) := fun k hk => by show (if _ then _ else _) = _; rw [if_neg (by omega)]
    have hvx : Value.ref x = aV (fun k => if k = h.1.length + 1 then x else ads k) (.inr (h.1.length + 1)) := by show _ = Value.ref (if _ then _ else _); rw [if_pos rfl]
    rw [← aVm_ext hex hV.1, hvx]
    exact kk _ H2 locs ls (cells + 1) (slots + cN o) hex ⟨hP2, hD2, hS2, aWf_push hwf⟩ (aL_ext hex hV hL) (aVs_push (aVs_mono (by show _ ≤ (h.1 ++ [(o, cN o)]).length; omega) hV) (by show _ ≤ (h.1 ++ [(o, cN o)]).length; omega)) (by show _ = _ + (h.1 ++ [(o, cN o)]).length; omega) (by show _ = _ + aSl (h.1 ++ [(o, cN o)]); omega)
  · rename_i hd
    obtain ⟨n, st1, hz, f⟩ := sI_some e
    clear e
    subst hz
    have e := f
    clear f
    obtain ⟨h1, e⟩ := bck_some e
    obtain rfl := aNext_q e
    have hlen : (h.1 ++ [(8, n.toNat)]).length = h.1.length + 1 := by rw [List.length_append, List.length_singleton]
    have hsl : aSl (h.1 ++ [(8, n.toNat)]) = aSl h.1 + n.toNat := by simp [aSl]
    dsimp only at hc1 hs1
    have hn32 : in32 n := aVs_hd hV
    refine va_newa (atype := .int) (ty := .int) (n := oi n) (N' := n.toNat) (a0 := (n.toNat, .inl (fun _ => 0))) hx hb (hts _ arr_in_int) rfl hK.1 hP hD hS hA (fun _ => rfl) (fun z => by have := (oi_lt hn32 (y := 0) ⟨by omega, by omega⟩).mp z; omega) (oi_nat h1.1 hn32.2) (show n.toNat * componentBytes .int ≤ 536870912 from Nat.le_trans (Nat.mul_le_mul (show n.toNat ≤ 100000 by omega) (show componentBytes .int ≤ 4 by decide)) (by decide)) (by omega) (by omega) hd (fun x cA H2 hK2 hP2 hD2 hS2 => ?_)
    have hcA : cA = dA 8 := by
      have e1 := (hK2.2 4 (cA, .int) rfl).2
      have e2 := (hK.1.2 0 (dA 8, .int) rfl).2
      exact Option.some.inj (e1.symm.trans e2)
    subst hcA
    have hp := aW_push (dA := dA) (ads := ads) hwf x (8, n.toNat)
    rw [aE_ints (by omega) (by omega), show (fun j => oi (h.2.2 (h.1.length + 1) j)) = (fun _ => 0) from funext fun j => by rw [(hwf.2.2 _ j (Nat.lt_succ_self _)).1]; rfl] at hp
    rw [← hp] at hP2 hD2
    have hex : aExt h.1.length ads (fun k => if k = h.1.length + 1 then x else ads k) := fun k hk => by show (if _ then _ else _) = _; rw [if_neg (by omega)]
    have hvx : Value.ref x = aV (fun k => if k = h.1.length + 1 then x else ads k) (.inr (h.1.length + 1)) := by show _ = Value.ref (if _ then _ else _); rw [if_pos rfl]
    have hV1 := aVs_pop hV
    rw [← aVm_ext hex hV1.1, hvx]
    exact kk _ H2 locs ls (cells + 1) (slots + n.toNat) hex ⟨hP2, hD2, hS2, aWf_push hwf⟩ (aL_ext hex hV hL) (aVs_push (aVs_mono (by show _ ≤ (h.1 ++ [(8, n.toNat)]).length; omega) hV1) (by show _ ≤ (h.1 ++ [(8, n.toNat)]).length; omega)) (by show _ = _ + (h.1 ++ [(8, n.toNat)]).length; omega) (by show _ = _ + aSl (h.1 ++ [(8, n.toNat)]); omega)
  · rename_i hd
    obtain ⟨n, st1, hz, f⟩ := sI_some e
    clear e
    subst hz
    have e := f
    clear f
    obtain ⟨h1, e⟩ := bck_some e
    obtain rfl := aNext_q e
    have hlen : (h.1 ++ [(9, n.toNat)]).length = h.1.length + 1 := by rw [List.length_append, List.length_singleton]
    have hsl : aSl (h.1 ++ [(9, n.toNat)]) = aSl h.1 + n.toNat := by simp [aSl]
    dsimp only at hc1 hs1
    have hn32 : in32 n := aVs_hd hV
    refine va_newa (atype := .boolean) (ty := .boolean) (n := oi n) (N' := n.toNat) (a0 := (n.toNat, .inl (fun _ => 0))) hx hb (hts _ arr_in_boolean) rfl hK.1 hP hD hS hA (fun _ => rfl) (fun z => by have := (oi_lt hn32 (y := 0) ⟨by omega, by omega⟩).mp z; omega) (oi_nat h1.1 hn32.2) (show n.toNat * componentBytes .boolean ≤ 536870912 from Nat.le_trans (Nat.mul_le_mul (show n.toNat ≤ 100000 by omega) (show componentBytes .boolean ≤ 4 by decide)) (by decide)) (by omega) (by omega) hd (fun x cA H2 hK2 hP2 hD2 hS2 => ?_)
    have hcA : cA = dA 9 := by
      have e1 := (hK2.2 4 (cA, .boolean) rfl).2
      have e2 := (hK.1.2 1 (dA 9, .boolean) rfl).2
      exact Option.some.inj (e1.symm.trans e2)
    subst hcA
    have hp := aW_push (dA := dA) (ads := ads) hwf x (9, n.toNat)
    rw [aE_ints (by omega) (by omega), show (fun j => oi (h.2.2 (h.1.length + 1) j)) = (fun _ => 0) from funext fun j => by rw [(hwf.2.2 _ j (Nat.lt_succ_self _)).1]; rfl] at hp
    rw [← hp] at hP2 hD2
    have hex : aExt h.1.length ads (fun k => if k = h.1.length + 1 then x else ads k) := fun k hk => by show (if _ then _ else _) = _; rw [if_neg (by omega)]
    have hvx : Value.ref x = aV (fun k => if k = h.1.length + 1 then x else ads k) (.inr (h.1.length + 1)) := by show _ = Value.ref (if _ then _ else _); rw [if_pos rfl]
    have hV1 := aVs_pop hV
    rw [← aVm_ext hex hV1.1, hvx]
    exact kk _ H2 locs ls (cells + 1) (slots + n.toNat) hex ⟨hP2, hD2, hS2, aWf_push hwf⟩ (aL_ext hex hV hL) (aVs_push (aVs_mono (by show _ ≤ (h.1 ++ [(9, n.toNat)]).length; omega) hV1) (by show _ ≤ (h.1 ++ [(9, n.toNat)]).length; omega)) (by show _ = _ + (h.1 ++ [(9, n.toNat)]).length; omega) (by show _ = _ + aSl (h.1 ++ [(9, n.toNat)]); omega)
  · rename_i hd
    obtain ⟨n, st1, hz, f⟩ := sI_some e
    clear e
    subst hz
    have e := f
    clear f
    obtain ⟨h1, e⟩ := bck_some e
    obtain rfl := aNext_q e
    have hlen : (h.1 ++ [(10, n.toNat)]).length = h.1.length + 1 := by rw [List.length_append, List.length_singleton]
    have hsl : aSl (h.1 ++ [(10, n.toNat)]) = aSl h.1 + n.toNat := by simp [aSl]
    dsimp only at hc1 hs1
    have hn32 : in32 n := aVs_hd hV
    refine va_newa (atype := .char) (ty := .char) (n := oi n) (N' := n.toNat) (a0 := (n.toNat, .inl (fun _ => 0))) hx hb (hts _ arr_in_char) rfl hK.1 hP hD hS hA (fun _ => rfl) (fun z => by have := (oi_lt hn32 (y := 0) ⟨by omega, by omega⟩).mp z; omega) (oi_nat h1.1 hn32.2) (show n.toNat * componentBytes .char ≤ 536870912 from Nat.le_trans (Nat.mul_le_mul (show n.toNat ≤ 100000 by omega) (show componentBytes .char ≤ 4 by decide)) (by decide)) (by omega) (by omega) hd (fun x cA H2 hK2 hP2 hD2 hS2 => ?_)
    have hcA : cA = dA 10 := by
      have e1 := (hK2.2 4 (cA, .char) rfl).2
      have e2 := (hK.1.2 2 (dA 10, .char) rfl).2
      exact Option.some.inj (e1.symm.trans e2)
    subst hcA
    have hp := aW_push (dA := dA) (ads := ads) hwf x (10, n.toNat)
    rw [aE_ints (by omega) (by omega), show (fun j => oi (h.2.2 (h.1.length + 1) j)) = (fun _ => 0) from funext fun j => by rw [(hwf.2.2 _ j (Nat.lt_succ_self _)).1]; rfl] at hp
    rw [← hp] at hP2 hD2
    have hex : aExt h.1.length ads (fun k => if k = h.1.length + 1 then x else ads k) := fun k hk => by show (if _ then _ else _) = _; rw [if_neg (by omega)]
    have hvx : Value.ref x = aV (fun k => if k = h.1.length + 1 then x else ads k) (.inr (h.1.length + 1)) := by show _ = Value.ref (if _ then _ else _); rw [if_pos rfl]
    have hV1 := aVs_pop hV
    rw [← aVm_ext hex hV1.1, hvx]
    exact kk _ H2 locs ls (cells + 1) (slots + n.toNat) hex ⟨hP2, hD2, hS2, aWf_push hwf⟩ (aL_ext hex hV hL) (aVs_push (aVs_mono (by show _ ≤ (h.1 ++ [(10, n.toNat)]).length; omega) hV1) (by show _ ≤ (h.1 ++ [(10, n.toNat)]).length; omega)) (by show _ = _ + (h.1 ++ [(10, n.toNat)]).length; omega) (by show _ = _ + aSl (h.1 ++ [(10, n.toNat)]); omega)
  · rename_i i hd
    obtain ⟨hq, e⟩ := gd_some e
    have hq := of_decide_eq_true hq
    obtain ⟨n, st1, hz, f⟩ := sI_some e
    clear e
    subst hz
    have e := f
    clear f
    obtain ⟨h1, e⟩ := bck_some e
    obtain rfl := aNext_q e
    obtain ⟨ho, hlink⟩ := nOk _ _ (alook_mem _ _ _ hq)
    dsimp only at ho hlink
    have hlen : (h.1 ++ [(11, n.toNat)]).length = h.1.length + 1 := by rw [List.length_append, List.length_singleton]
    have hsl : aSl (h.1 ++ [(11, n.toNat)]) = aSl h.1 + n.toNat := by simp [aSl]
    dsimp only at hc1 hs1
    have hn32 : in32 n := aVs_hd hV
    refine va_newq (C := RX2) (n := oi n) (N' := n.toNat) hx hb hown (hts _ hlink) hK.2.2 hK.1 hP hD hS hA (fun z => by have := (oi_lt hn32 (y := 0) ⟨by omega, by omega⟩).mp z; omega) (oi_nat h1.1 hn32.2) (by omega) (by omega) (by omega) hd (fun x cA H2 hK2 hP2 hD2 hS2 => ?_)
    have hcA : cA = dA 11 := by
      obtain ⟨_, _, _, _, _, e1⟩ := (hK2.2 4 (cA, .object RX2) rfl).2
      obtain ⟨_, _, _, _, _, e2⟩ := (hK.1.2 3 (dA 11, .object RX2) rfl).2
      exact Option.some.inj (e1.symm.trans e2)
    subst hcA
    have hp := aW_push (dA := dA) (ads := ads) hwf x (11, n.toNat)
    rw [aE_refs, show (fun j => aO ads (h.2.1 (h.1.length + 1) j)) = (fun _ => none) from funext fun j => by rw [(hwf.2.2 _ j (Nat.lt_succ_self _)).2]; rfl] at hp
    rw [← hp] at hP2 hD2
    have hex : aExt h.1.length ads (fun k => if k = h.1.length + 1 then x else ads k) := fun k hk => by show (if _ then _ else _) = _; rw [if_neg (by omega)]
    have hvx : Value.ref x = aV (fun k => if k = h.1.length + 1 then x else ads k) (.inr (h.1.length + 1)) := by show _ = Value.ref (if _ then _ else _); rw [if_pos rfl]
    have hV1 := aVs_pop hV
    rw [← aVm_ext hex hV1.1, hvx]
    exact kk _ H2 locs ls (cells + 1) (slots + n.toNat) hex ⟨hP2, hD2, hS2, aWf_push hwf⟩ (aL_ext hex hV hL) (aVs_push (aVs_mono (by show _ ≤ (h.1 ++ [(11, n.toNat)]).length; omega) hV1) (by show _ ≤ (h.1 ++ [(11, n.toNat)]).length; omega)) (by show _ = _ + (h.1 ++ [(11, n.toNat)]).length; omega) (by show _ = _ + aSl (h.1 ++ [(11, n.toNat)]); omega)
  · rename_i hd
    split at e
    · obtain ⟨_, e⟩ := gd_some e
      cases e
    · cases e
  · rename_i hd
    split at e
    · obtain ⟨_, e⟩ := gd_some e
      cases e
    · cases e
  · rename_i hd
    split at e
    · obtain ⟨_, e⟩ := gd_some e
      cases e
    · cases e
  · rename_i i hd
    obtain ⟨q1, hq, e⟩ := gO_some e
    obtain ⟨_, e⟩ := gd_some e
    obtain ⟨b2, rest, _, e⟩ := sR_some e
    obtain ⟨_, _, _, _, e⟩ := isA_some e
    cases (aCall_some e).2
  · rename_i i hd
    obtain ⟨⟨t, n, kd⟩, hq, e⟩ := gO_some e
    have hq4 := cOk _ _ (alook_mem _ _ _ hq)
    dsimp only at e
    split at e
    · obtain ⟨_, e⟩ := gd_some e
      cases (aCall_some e).2
    · obtain ⟨_, e⟩ := gd_some e
      cases (aCall_some e).2
    · obtain ⟨y, st1, hz, f⟩ := sI_some e
      clear e
      subst hz
      have e := f
      clear f
      obtain ⟨x, st2, hz, f⟩ := sI_some e
      clear e
      subst hz
      have e := f
      clear f
      obtain ⟨hr, e⟩ := gd_some e
      obtain ⟨hr1, hr2⟩ := of_decide_eq_true hr
      obtain rfl := aNext_q e
      have hx32 : in32 x := aVs_hd (aVs_pop hV)
      have hy32 : in32 y := aVs_hd hV
      refine va_mmax (x := oi x) (y := oi y) hx hb (by rw [hml, hL.2.1]) hown (hts _ hq4) (hts _ math_in_max.1) (hts _ math_in_max.2.1) (hts _ math_in_max.2.2) (by rw [hRf]; exact hr1) (by rw [hRl, a_cats]; exact hr2) hc2 hs2 hd ?_
      rw [a_max hx32 hy32]
      exact kk ads H locs ls cells slots aE1 ⟨hP, hD, hS, hwf⟩ hL (aVs_push (aVs_pop (aVs_pop hV)) (by show in32 (if _ then _ else _); split <;> assumption)) rfl rfl
    · obtain ⟨y, st1, hz, f⟩ := sI_some e
      clear e
      subst hz
      have e := f
      clear f
      obtain ⟨x, st2, hz, f⟩ := sI_some e
      clear e
      subst hz
      have e := f
      clear f
      obtain ⟨hr, e⟩ := gd_some e
      obtain ⟨hr1, hr2⟩ := of_decide_eq_true hr
      obtain rfl := aNext_q e
      have hx32 : in32 x := aVs_hd (aVs_pop hV)
      have hy32 : in32 y := aVs_hd hV
      refine va_mmin (x := oi x) (y := oi y) hx hb (by rw [hml, hL.2.1]) hown (hts _ hq4) (hts _ math_in_min.1) (hts _ math_in_min.2.1) (hts _ math_in_min.2.2) (by rw [hRf]; exact hr1) (by rw [hRl, a_cats]; exact hr2) hc2 hs2 hd ?_
      rw [a_min hx32 hy32]
      exact kk ads H locs ls cells slots aE1 ⟨hP, hD, hS, hwf⟩ hL (aVs_push (aVs_pop (aVs_pop hV)) (by show in32 (if _ then _ else _); split <;> assumption)) rfl rfl
    · obtain ⟨x, st1, hz, f⟩ := sI_some e
      clear e
      subst hz
      have e := f
      clear f
      obtain ⟨hr, e⟩ := gd_some e
      obtain ⟨hr1, hr2⟩ := of_decide_eq_true hr
      obtain ⟨h1, e⟩ := bck_some e
      obtain rfl := aNext_q e
      have hx32 : in32 x := aVs_hd hV
      refine va_mabs (x := oi x) hx hb (by rw [hml, hL.2.1]) hown (hts _ hq4) (hts _ math_in_abs.1) (hts _ math_in_abs.2.1) (hts _ math_in_abs.2.2) (by rw [hRf]; exact hr1) (by rw [hRl, a_cats]; exact hr2) hc2 hs2 hd ?_
      rw [a_abs hx32]
      exact kk ads H locs ls cells slots aE1 ⟨hP, hD, hS, hwf⟩ hL (aVs_push (aVs_pop hV) (in32_abs h1)) rfl rfl
    · cases e
  · rename_i i hd
    obtain ⟨⟨t, n, kd⟩, hq, e⟩ := gO_some e
    have hq4 := cOk _ _ (alook_mem _ _ _ hq)
    dsimp only at e
    split at e
    · obtain ⟨_, e⟩ := gd_some e
      obtain ⟨b2, rest, _, e⟩ := sR_some e
      obtain ⟨_, e⟩ := gd_some e
      cases (aCall_some e).2
    · obtain ⟨_, e⟩ := gd_some e
      obtain ⟨b2, rest, _, e⟩ := sR_some e
      obtain ⟨_, e⟩ := gd_some e
      cases (aCall_some e).2
    · obtain ⟨a, st1, hz, f⟩ := sR_some e
      clear e
      subst hz
      have e := f
      clear f
      obtain ⟨hr, e⟩ := gd_some e
      obtain ⟨hr1, hr2, hr3⟩ := of_decide_eq_true hr
      obtain rfl := aNext_q e
      refine W.objInit hx hb hown (hts _ hq4) (hts _ oi_in.1) (hts _ oi_in.2) rfl (by show ls.size = _; rw [hml]; exact hL.2.1) (a := ads a) (rest := st1.map (aV ads)) rfl hd (by rw [hRf]; exact hr1) (by show 2 * 0 + _ + 12 ≤ _; rw [hRl, a_cats]; omega) ?_
      refine W.eq (g2 := F0 m (pc + 3) ls (st1.map (aV ads))) rfl ?_
      exact kk ads H locs ls cells slots aE1 ⟨hP, hD, hS, hwf⟩ hL (aVs_pop hV) rfl rfl
    · cases e
  · cases e
