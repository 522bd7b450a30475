/-! what a step of the small machine answers, the JVM answers -/
def aKn (D : va_G) (dA : Nat → ClassId) (U : State) : Prop := va_K D vwCl [(dA 8, .int), (dA 9, .boolean), (dA 10, .char), (dA 11, .object RX2)] U ∧ (∀ q ∈ nestL, va_Nw (.methodLinkNest q.1 q.2.1 q.2.2.1 q.2.2.2) U) ∧ va_AO RX2 U
theorem aKn_warm {D : va_G} {dA : Nat → ClassId} {s U : State} (hW : s.WarmedH U.vm) (h : aKn D dA s) : aKn D dA U := ⟨va_K.moved hW.alike h.1, fun q hq => va_Nw.warmM hW (h.2.1 q hq), va_AO.moved hW.alike h.2.2⟩
theorem aKn_same {D : va_G} {dA : Nat → ClassId} {u U : State} (hv : u.vm = U.vm) (h : aKn D dA u) : aKn D dA U := ⟨va_K.moved (by rw [hv]; exact Vm.Alike.refl U.vm) h.1, fun q hq => va_Nw.same rfl hv (h.2.1 q hq), va_AO.moved (by rw [hv]; exact Vm.Alike.refl U.vm) h.2.2⟩
def aCtx (p : Program) (s : State) (m : MethodId) (args : Array Value) (meth : Method) (c : Code) (D : va_G) (dA : Nat → ClassId) (mi : Nat) : Prop :=
  p.tables.exec = Jvm.exec ∧ c.code = mCode mi ∧ c.maxLocals = mMaxL mi ∧ s.vm.findClass (cNm (mOwn mi)) = some m.cls ∧ (∀ w ∈ aU, w.before args s = true) ∧ aKn D dA s ∧ (mIni mi = true → meth.name = "<init>")
def aScr (sc : Nat × (Nat → Int)) (b : Nat) (s : State) (A : Nat → Prop) : Prop := ∃ xs : Nat → Int32, va_X b sc.1 xs s s.heap ∧ b < s.heap.size ∧ ¬ A b ∧ sc.1 < 2147483648 ∧ ∀ j, in32 (sc.2 j) ∧ xs j = oi (sc.2 j)
def aRep (D : va_G) (dA : Nat → ClassId) (A : Nat → Prop) (s : State) (ads : Nat → Nat) (h : AH) (H : Heap) (locs : List Loc) : Prop := va_P D vwCl (aW dA ads h) H ∧ va_D A (aW dA ads h) ∧ va_S A s.heap H locs ∧ aWf h
theorem aNext_q {pc : Nat} {lv : LV} {st : List AV} {h : AH} {q : AN} (e : aNext pc lv st h = some (.inl q)) : q = (pc, lv, st, h) := by
  have := aNext_some e
  cases this
  rfl
theorem aVs_push {n : Nat} {lv : LV} {st : List AV} {v : AV} (h : aVs n lv st) (hv : aOk n v) : aVs n lv (v :: st) := ⟨fun w hw => (List.mem_cons.mp hw).elim (fun e => e ▸ hv) (h.1 w), h.2⟩
theorem aVs_pop {n : Nat} {lv : LV} {st : List AV} {v : AV} (h : aVs n lv (v :: st)) : aVs n lv st := ⟨fun w hw => h.1 w (List.mem_cons_of_mem _ hw), h.2⟩
theorem aVs_hd {n : Nat} {lv : LV} {st : List AV} {v : AV} (h : aVs n lv (v :: st)) : aOk n v := h.1 v List.mem_cons_self
theorem aVs_set {n i : Nat} {lv : LV} {st : List AV} {v : AV} (h : aVs n lv st) (hv : aOk n v) : aVs n (lv.set i (some v)) st := ⟨h.1, fun j w hj => by
  by_cases e : j = i
  · subst e
    by_cases hl : j < lv.length
    · rw [List.getElem?_set_self hl] at hj; cases hj; exact hv
    · rw [List.getElem?_eq_none (by rw [List.length_set]; omega)] at hj; cases hj
  · rw [List.getElem?_set_ne (fun q => e q.symm)] at hj; exact h.2 j w hj⟩
theorem aE1 {n : Nat} {ads : Nat → Nat} : aExt n ads ads := fun _ _ => rfl
theorem aOk_mono {n k : Nat} (hnk : n ≤ k) {v : AV} (h : aOk n v) : aOk k v := by
  cases v with
  | inl x => exact h
  | inr a => exact Nat.le_trans h hnk
theorem aVs_mono {n k : Nat} (hnk : n ≤ k) {lv : LV} {st : List AV} (h : aVs n lv st) : aVs k lv st := ⟨fun v hv => aOk_mono hnk (h.1 v hv), fun i v hv => aOk_mono hnk (h.2 i v hv)⟩
section ABR
variable {p : Program} {l : Launch} {e : Env} {R : Room} {s : State} {m : MethodId} {args : Array Value} {below : List Frame} {meth : Method} {c : Code} {H : Heap} {locs : List Loc} {cells slots : Nat} {Q : State → Prop}
variable {cc : ByteArray} {pc : Nat} {ls : Array Slot} {rest : List Value}
theorem a_if (hexec : p.tables.exec = Jvm.exec) (hb : c.code = cc) {x : Int} {off : Int} {tgt : Nat} {cd : Jvm.ClassFile.Cond} (hdg : decode cc pc = .ok (.ifCond cd off, 3)) (ht : (pc : Int) + off = (tgt : Int)) (hx : in32 x)
    (kt : cmpB cd x 0 = true → W p l e R s m args below meth c H locs cells slots Q (F0 m tgt ls rest)) (kf : ¬ cmpB cd x 0 = true → W p l e R s m args below meth c H locs cells slots Q (F0 m (pc + 3) ls rest)) : W p l e R s m args below meth c H locs cells slots Q (F0 m pc ls (.int (oi x) :: rest)) := by
  have h0 : in32 0 := by decide
  cases cd with
  | eq => exact lv_if_eq hexec hb hdg ht (fun q => kt (decide_eq_true ((oi_eq hx h0).mp q))) (fun q => kf (fun z => q ((oi_eq hx h0).mpr (of_decide_eq_true z))))
  | ne => exact lv_if_ne hexec hb hdg ht (fun q => kt (decide_eq_true (fun z => q ((oi_eq hx h0).mpr z)))) (fun q => kf (fun z => (of_decide_eq_true z) ((oi_eq hx h0).mp q)))
  | lt => exact lv_if_lt hexec hb hdg ht (fun q => kt (decide_eq_true ((oi_lt hx h0).mp q))) (fun q => kf (fun z => q ((oi_lt hx h0).mpr (of_decide_eq_true z))))
  | ge => exact lv_if_ge hexec hb hdg ht (fun q => kt (decide_eq_true ((oi_le h0 hx).mp q))) (fun q => kf (fun z => q ((oi_le h0 hx).mpr (of_decide_eq_true z))))
  | gt => exact lv_if_gt hexec hb hdg ht (fun q => kt (decide_eq_true ((oi_lt h0 hx).mp q))) (fun q => kf (fun z => q ((oi_lt h0 hx).mpr (of_decide_eq_true z))))
  | le => exact lv_if_le hexec hb hdg ht (fun q => kt (decide_eq_true ((oi_le hx h0).mp q))) (fun q => kf (fun z => q ((oi_le hx h0).mpr (of_decide_eq_true z))))
theorem a_icmp (hexec : p.tables.exec = Jvm.exec) (hb : c.code = cc) {x y : Int} {off : Int} {tgt : Nat} {cd : Jvm.ClassFile.Cond} (hdg : decode cc pc = .ok (.if_icmp cd off, 3)) (ht : (pc : Int) + off = (tgt : Int)) (hx : in32 x) (h0 : in32 y)
    (kt : cmpB cd x y = true → W p l e R s m args below meth c H locs cells slots Q (F0 m tgt ls rest)) (kf : ¬ cmpB cd x y = true → W p l e R s m args below meth c H locs cells slots Q (F0 m (pc + 3) ls rest)) : W p l e R s m args below meth c H locs cells slots Q (F0 m pc ls (.int (oi y) :: .int (oi x) :: rest)) := by
  cases cd with
  | eq => exact lv_icmp_eq hexec hb hdg ht (fun q => kt (decide_eq_true ((oi_eq hx h0).mp q))) (fun q => kf (fun z => q ((oi_eq hx h0).mpr (of_decide_eq_true z))))
  | ne => exact lv_icmp_ne hexec hb hdg ht (fun q => kt (decide_eq_true (fun z => q ((oi_eq hx h0).mpr z)))) (fun q => kf (fun z => (of_decide_eq_true z) ((oi_eq hx h0).mp q)))
  | lt => exact lv_icmp_lt hexec hb hdg ht (fun q => kt (decide_eq_true ((oi_lt hx h0).mp q))) (fun q => kf (fun z => q ((oi_lt hx h0).mpr (of_decide_eq_true z))))
  | ge => exact lv_icmp_ge hexec hb hdg ht (fun q => kt (decide_eq_true ((oi_le h0 hx).mp q))) (fun q => kf (fun z => q ((oi_le h0 hx).mpr (of_decide_eq_true z))))
  | gt => exact lv_icmp_gt hexec hb hdg ht (fun q => kt (decide_eq_true ((oi_lt h0 hx).mp q))) (fun q => kf (fun z => q ((oi_lt h0 hx).mpr (of_decide_eq_true z))))
  | le => exact lv_icmp_le hexec hb hdg ht (fun q => kt (decide_eq_true ((oi_le hx h0).mp q))) (fun q => kf (fun z => q ((oi_le hx h0).mpr (of_decide_eq_true z))))
end ABR
