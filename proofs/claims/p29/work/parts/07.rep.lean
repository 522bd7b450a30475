/-! numbers of the machine and whole numbers; the heap that stands for a small machine's cells -/
abbrev in32 (x : Int) : Prop := -2147483648 ≤ x ∧ x ≤ 2147483647
def oi (x : Int) : Int32 := Int32.ofInt x
theorem oi_toInt {x : Int} (h : in32 x) : (oi x).toInt = x := Int32.toInt_ofInt_of_le (by simpa using h.1) (by have := h.2; simp; omega)
theorem oi_of {y : Int32} {x : Int} (h : y.toInt = x) : y = oi x := by
  subst h; exact (Int32.ofInt_toInt y).symm
theorem oi_eq {x y : Int} (hx : in32 x) (hy : in32 y) : oi x = oi y ↔ x = y :=
  ⟨fun h => by rw [← oi_toInt hx, ← oi_toInt hy, h], fun h => by rw [h]⟩
theorem oi_lt {x y : Int} (hx : in32 x) (hy : in32 y) : oi x < oi y ↔ x < y := by
  rw [Int32.lt_iff_toInt_lt, oi_toInt hx, oi_toInt hy]
theorem oi_le {x y : Int} (hx : in32 x) (hy : in32 y) : oi x ≤ oi y ↔ x ≤ y := by
  rw [Int32.le_iff_toInt_le, oi_toInt hx, oi_toInt hy]
theorem oi_add (x y : Int) : oi x + oi y = oi (x + y) := (Int32.ofInt_add x y).symm
theorem oi_sub (x y : Int) : oi x - oi y = oi (x - y) := (Int32.ofInt_sub x y).symm
theorem oi_mul (x y : Int) : oi x * oi y = oi (x * y) := (Int32.ofInt_mul x y).symm
theorem oi_neg (x : Int) : -oi x = oi (-x) := (Int32.ofInt_neg x).symm
theorem oi_nat {x : Int} (h0 : 0 ≤ x) (h1 : x ≤ 2147483647) : (oi x).toNatClampNeg = x.toNat := by
  rw [Int32.toNatClampNeg, oi_toInt ⟨by omega, h1⟩]
theorem oi_vpin {x : Int} {n : Nat} (h0 : 0 ≤ x) (h1 : x ≤ 2147483647) (h2 : x ≤ (n : Int) - 1) : vp_in (oi x) n := by
  intro q
  rcases q with q | q
  · have := (oi_lt (x := x) (y := 0) ⟨by omega, h1⟩ ⟨by omega, by omega⟩).mp q
    omega
  · rw [oi_nat h0 h1] at q; omega
theorem oi_div {x y : Int} (hx : 0 ≤ x) (hx1 : x ≤ 2147483647) (hy : 1 ≤ y) (hy1 : y ≤ 2147483647) : oi x / oi y = oi (x / y) := by
  apply oi_of
  rw [Int32.toInt_div, oi_toInt ⟨by omega, hx1⟩, oi_toInt ⟨by omega, hy1⟩, Int.tdiv_eq_ediv_of_nonneg hx]
  have h1 : 0 ≤ x / y := Int.ediv_nonneg hx (by omega)
  have h2 : x / y ≤ x := Int.ediv_le_self y hx
  rw [Int.bmod_eq_of_le] <;> omega
theorem oi_rem {x y : Int} (hx : 0 ≤ x) (hx1 : x ≤ 2147483647) (hy : 1 ≤ y) (hy1 : y ≤ 2147483647) : oi x - oi x / oi y * oi y = oi (x % y) := by
  rw [oi_div hx hx1 hy hy1, oi_mul, oi_sub]
  congr 1
  have := Int.emod_add_mul_ediv x y
  rw [Int.mul_comm] at this
  omega
theorem bv_mod {x : Int} {k : Nat} (hk : k ≤ 32) : BitVec.ofInt 32 x &&& BitVec.ofNat 32 (2 ^ k - 1) = BitVec.ofInt 32 (x % (2 ^ k : Nat)) := by
  apply BitVec.eq_of_toNat_eq
  have hp : (2 : Nat) ^ k ≤ 2 ^ 32 := Nat.pow_le_pow_right (by omega) hk
  have hp0 : 0 < (2 : Nat) ^ k := Nat.pow_pos (by omega)
  rw [BitVec.toNat_and, BitVec.toNat_ofInt, BitVec.toNat_ofInt, BitVec.toNat_ofNat, Nat.mod_eq_of_lt (by omega), Nat.and_two_pow_sub_one_eq_mod]
  have hd : ((2 : Nat) ^ k) ∣ 2 ^ 32 := Nat.pow_dvd_pow 2 hk
  have e1 : (x % ((2 ^ 32 : Nat) : Int)) % ((2 ^ k : Nat) : Int) = x % ((2 ^ k : Nat) : Int) := Int.emod_emod_of_dvd x (Int.natCast_dvd_natCast.mpr hd)
  have e2 : 0 ≤ x % ((2 ^ 32 : Nat) : Int) := Int.emod_nonneg _ (by decide)
  have e3 : 0 ≤ x % ((2 ^ k : Nat) : Int) := Int.emod_nonneg _ (by omega)
  have e4 : x % ((2 ^ k : Nat) : Int) < ((2 ^ k : Nat) : Int) := Int.emod_lt_of_pos _ (by omega)
  rw [Int.emod_eq_of_lt e3 (by omega), ← e1]
  have := Int.toNat_emod e2 (show (0 : Int) ≤ ((2 ^ k : Nat) : Int) by omega)
  rw [this, Int.toNat_natCast]
theorem oi_and31 (x : Int) : oi x &&& oi 31 = oi (x % 32) := by
  apply Int32.toBitVec_inj.mp
  rw [Int32.toBitVec_and]
  exact bv_mod (x := x) (k := 5) (by omega)
theorem oi_and1 (x : Int) : oi x &&& oi 1 = oi (x % 2) := by
  apply Int32.toBitVec_inj.mp
  rw [Int32.toBitVec_and]
  exact bv_mod (x := x) (k := 1) (by omega)
theorem oi_and3 (x : Int) : oi x &&& oi 3 = oi (x % 4) := by
  apply Int32.toBitVec_inj.mp
  rw [Int32.toBitVec_and]
  exact bv_mod (x := x) (k := 2) (by omega)
theorem oi_andM (x : Int) : oi x &&& oi 2147483647 = oi (x % (2147483647 + 1)) := by
  apply Int32.toBitVec_inj.mp
  rw [Int32.toBitVec_and]
  exact bv_mod (x := x) (k := 31) (by omega)
theorem oi_i2c (x : Int) : ((oi x).toUInt32 % 65536).toInt32 = oi (x % 65536) := by
  apply Int32.toBitVec_inj.mp
  show (BitVec.ofInt 32 x) % 65536#32 = BitVec.ofInt 32 (x % 65536)
  have := bv_mod (x := x) (k := 16) (by omega)
  rw [show ((2 ^ 16 : Nat) : Int) = 65536 from rfl] at this
  rw [← this]
  apply BitVec.eq_of_toNat_eq
  rw [BitVec.toNat_and, BitVec.toNat_umod]
  exact (Nat.and_two_pow_sub_one_eq_mod _ 16).symm
theorem oi_nar_char {x : Int} (h0 : 0 ≤ x) (h1 : x ≤ 65535) : narrow .char (.int (oi x)) = .int (oi x) := by
  show Value.int _ = _
  congr 1
  apply Int32.toBitVec_inj.mp
  show ((BitVec.ofInt 32 x).setWidth 16).setWidth 32 = BitVec.ofInt 32 x
  apply BitVec.eq_of_toNat_eq
  rw [BitVec.toNat_setWidth, BitVec.toNat_setWidth, BitVec.toNat_ofInt]
  have e : x % ((2 ^ 32 : Nat) : Int) = x := Int.emod_eq_of_lt h0 (by omega)
  rw [e]
  omega
theorem oi_nar_bool {x : Int} (h0 : 0 ≤ x) (h1 : x ≤ 1) : narrow .boolean (.int (oi x)) = .int (oi x) := by
  rcases (show x = 0 ∨ x = 1 by omega) with rfl | rfl <;> rfl
theorem oi_fit_bool {x : Int} (h0 : 0 ≤ x) (h1 : x ≤ 1) : fits .boolean (.int (oi x)) = true := by
  rcases (show x = 0 ∨ x = 1 by omega) with rfl | rfl <;> rfl
theorem oi_or {x y : Int} (hx : 0 ≤ x) (hx1 : x ≤ 127) (hy : 0 ≤ y) (hy1 : y ≤ 127) : oi x ||| oi y = oi ((x.toNat ||| y.toNat : Nat) : Int) := by
  have key : ∀ a : Fin 128, ∀ b : Fin 128, Int32.ofInt (a.val : Int) ||| Int32.ofInt (b.val : Int) = Int32.ofInt ((a.val ||| b.val : Nat) : Int) := by decide +kernel
  have := key ⟨x.toNat, by omega⟩ ⟨y.toNat, by omega⟩
  simp only [Int.toNat_of_nonneg hx, Int.toNat_of_nonneg hy] at this
  exact this
theorem or_lt {x y : Nat} (hx : x ≤ 127) (hy : y ≤ 127) : x ||| y ≤ 127 := Nat.le_of_lt_succ (Nat.or_lt_two_pow (n := 7) (by omega) (by omega))
theorem oi_shl {y : Int} (hy : 0 ≤ y) (hy1 : y ≤ 6) : oi 1 <<< (oi y &&& 31) = oi ((2 ^ y.toNat : Nat) : Int) := by
  have key : ∀ b : Fin 7, Int32.ofInt 1 <<< (Int32.ofInt (b.val : Int) &&& 31) = Int32.ofInt ((2 ^ b.val : Nat) : Int) := by decide +kernel
  have := key ⟨y.toNat, by omega⟩
  simp only [Int.toNat_of_nonneg hy] at this
  exact this
theorem pow_le64 {y : Nat} (hy1 : y ≤ 6) : 2 ^ y ≤ 64 := Nat.pow_le_pow_right (n := 2) (by omega) hy1
theorem oi_shr {x y : Int} (hx : in32 x) (hy : 0 ≤ y) (hy1 : y ≤ 31) : oi x >>> (oi y &&& 31) = oi (x / ((2 ^ y.toNat : Nat) : Int)) := by
  apply oi_of
  have key : ∀ b : Fin 32, ((Int32.ofInt (b.val : Int) &&& 31).toBitVec.smod 32).toNat = b.val := by decide +kernel
  have k := key ⟨y.toNat, by omega⟩
  simp only [Int.toNat_of_nonneg hy] at k
  show (BitVec.sshiftRight' (oi x).toBitVec ((oi y &&& 31).toBitVec.smod 32)).toInt = _
  rw [BitVec.sshiftRight_eq', BitVec.toInt_sshiftRight]
  have k2 : ((oi y &&& 31).toBitVec.smod 32).toNat = y.toNat := k
  rw [k2, Int.shiftRight_eq_div_pow]
  have k3 : (oi x).toBitVec.toInt = x := oi_toInt hx
  rw [k3]
theorem shr_b {x : Int} {n : Nat} (hx : in32 x) : in32 (x / ((2 ^ n : Nat) : Int)) := by
  have h1 := Nat.pow_pos (n := n) (show 0 < 2 by omega)
  generalize 2 ^ n = m at h1 ⊢
  have c := hx.1
  have d := hx.2
  exact ⟨Int.le_ediv_of_mul_le (by omega) (by omega), Int.ediv_le_of_le_mul (by omega) (by omega)⟩
theorem oi_push8 {n : Int} (h0 : -128 ≤ n) (h1 : n ≤ 127) : (Int8.ofInt n).toInt32 = oi n := by
  apply oi_of
  rw [Int8.toInt_toInt32, Int8.toInt_ofInt_of_le (by simpa using h0) (by simp; omega)]
theorem oi_push16 {n : Int} (h0 : -32768 ≤ n) (h1 : n ≤ 32767) : (Int16.ofInt n).toInt32 = oi n := by
  apply oi_of
  rw [Int16.toInt_toInt32, Int16.toInt_ofInt_of_le (by simpa using h0) (by simp; omega)]
/-! what is said of a step that goes on -/
theorem bck_some {α : Type} {lo hi x : Int} {a : Option α} {r : α} (h : bck lo hi x a = some r) : (lo ≤ x ∧ x ≤ hi) ∧ a = some r := by
  unfold bck at h
  by_cases c : lo ≤ x ∧ x ≤ hi
  · rw [if_pos c] at h; exact ⟨c, h⟩
  · rw [if_neg c] at h; cases h
theorem gI_some {α : Type} {lv : LV} {i : Nat} {K : Int → Option α} {r : α} (h : gI lv i K = some r) : ∃ x, lv[i]? = some (some (.inl x)) ∧ K x = some r := by
  unfold gI at h
  split at h
  · exact ⟨_, by assumption, h⟩
  · cases h
theorem gR_some {α : Type} {lv : LV} {i : Nat} {K : Nat → Option α} {r : α} (h : gR lv i K = some r) : ∃ x, lv[i]? = some (some (.inr x)) ∧ K x = some r := by
  unfold gR at h
  split at h
  · exact ⟨_, by assumption, h⟩
  · cases h
theorem sI_some {α : Type} {st : List AV} {K : Int → List AV → Option α} {r : α} (h : sI st K = some r) : ∃ x st', st = .inl x :: st' ∧ K x st' = some r := by
  unfold sI at h
  split at h
  · exact ⟨_, _, rfl, h⟩
  · cases h
theorem sR_some {α : Type} {st : List AV} {K : Nat → List AV → Option α} {r : α} (h : sR st K = some r) : ∃ x st', st = .inr x :: st' ∧ K x st' = some r := by
  unfold sR at h
  split at h
  · exact ⟨_, _, rfl, h⟩
  · cases h
theorem gd_some {α : Type} {b : Bool} {a : Option α} {r : α} (h : gd b a = some r) : b = true ∧ a = some r := by
  cases b with
  | true => exact ⟨rfl, h⟩
  | false => cases h
theorem gO_some {α β : Type} {o : Option β} {K : β → Option α} {r : α} (h : gO o K = some r) : ∃ x, o = some x ∧ K x = some r := by
  cases o with
  | none => cases h
  | some x => exact ⟨x, rfl, h⟩
theorem jmp_some {α : Type} {pc : Nat} {off : Int} {K : Nat → Option α} {r : α} (h : jmp pc off K = some r) : ∃ t : Nat, (pc : Int) + off = (t : Int) ∧ K t = some r := by
  unfold jmp at h
  by_cases c : 0 ≤ (pc : Int) + off
  · rw [if_pos c] at h; exact ⟨_, (Int.toNat_of_nonneg c).symm, h⟩
  · rw [if_neg c] at h; cases h
theorem isA_some {α : Type} {h : AH} {a k : Nat} {K : Nat → Option α} {r : α} (e : isA h a k K = some r) : ∃ b n, a = b + 1 ∧ h.1[b]? = some (k, n) ∧ K n = some r := by
  unfold isA at e
  cases a with
  | zero => cases e
  | succ b =>
    dsimp only at e
    cases hq : h.1[b]? with
    | none => rw [hq] at e; cases e
    | some q =>
      obtain ⟨k', n⟩ := q
      rw [hq] at e
      dsimp only at e
      by_cases c : k' = k
      · rw [if_pos c] at e; subst c; exact ⟨b, n, rfl, hq, e⟩
      · rw [if_neg c] at e; cases e
theorem aNext_some {pc : Nat} {lv : LV} {st : List AV} {h : AH} {t : AT} (e : aNext pc lv st h = some t) : t = .inl (pc, lv, st, h) := (Option.some.inj e).symm
theorem aCall_some {t pc : Nat} {vs rest : List AV} {r : AT} (e : aCall t vs pc rest = some r) : (vs.length ≤ mMaxL t ∧ rest.length ≤ 8) ∧ r = .inr (.inl (t, ent (mMaxL t) vs, pc, rest)) := by
  obtain ⟨h1, h2⟩ := gd_some e
  exact ⟨of_decide_eq_true h1, (Option.some.inj h2).symm⟩
/-! values, cells -/
def aV (ads : Nat → Nat) : AV → Value
  | .inl x => .int (oi x)
  | .inr k => .ref (ads k)
def aOk (n : Nat) : AV → Prop
  | .inl x => in32 x
  | .inr k => k ≤ n
def aO (ads : Nat → Nat) (r : Nat) : Option Nat := if r = 0 then none else some (ads r)
def aFv (ads : Nat → Nat) (h : AH) (k kd j : Nat) : Value := if fRef kd j = true then va_rf (aO ads (h.2.1 k j)) else .int (oi (h.2.2 k j))
def aE (dA : Nat → ClassId) (ads : Nat → Nat) (h : AH) (k : Nat) (q : Nat × Nat) : va_E :=
  if q.1 < 7 then .inr (q.1, (List.range (cN q.1)).map (aFv ads h k q.1))
  else if q.1 = 11 then .inl (dA 11, q.2, .inr (.inr (.inr (.inr (fun j => aO ads (h.2.1 k j))))))
  else .inl (dA q.1, q.2, .inl (fun j => oi (h.2.2 k j)))
def aCl (dA : Nat → ClassId) (ads : Nat → Nat) (h : AH) (k : Nat) : Nat × va_E := (ads (k + 1), aE dA ads h (k + 1) (h.1.getD k (0, 0)))
def aW (dA : Nat → ClassId) (ads : Nat → Nat) (h : AH) : va_W := (List.range h.1.length).map (aCl dA ads h)
def aWf (h : AH) : Prop := (∀ k j, in32 (h.2.2 k j)) ∧ (∀ k j, h.2.1 k j ≤ h.1.length) ∧ (∀ k j, h.1.length < k → h.2.2 k j = 0 ∧ h.2.1 k j = 0)
def aVs (n : Nat) (lv : LV) (st : List AV) : Prop := (∀ v ∈ st, aOk n v) ∧ ∀ (i : Nat) (v : AV), lv[i]? = some (some v) → aOk n v
def aExt (n : Nat) (ads ads2 : Nat → Nat) : Prop := ∀ k, k ≤ n → ads2 k = ads k
def aL (ads : Nat → Nat) (nL : Nat) (lv : LV) (ls : Array Slot) : Prop := lv.length = nL ∧ ls.size = nL ∧ lv_wf ls ∧ ∀ (i : Nat) (v : AV), lv[i]? = some (some v) → ls[i]? = some (.val (aV ads v))
def aLs (ads : Nat → Nat) (lv : LV) : List (Nat × Value) := (List.range lv.length).filterMap (fun i => match lv[i]? with
  | some (some v) => some (i, aV ads v)
  | _ => none)
theorem aLs_mem {ads : Nat → Nat} {lv : LV} {q : Nat × Value} : q ∈ aLs ads lv ↔ ∃ v, lv[q.1]? = some (some v) ∧ q.2 = aV ads v := by
  unfold aLs
  rw [List.mem_filterMap]
  constructor
  · rintro ⟨i, -, h⟩
    split at h
    · cases h; exact ⟨_, by assumption, rfl⟩
    · cases h
  · rintro ⟨v, h1, h2⟩
    refine ⟨q.1, List.mem_range.mpr (List.getElem?_eq_some_iff.mp h1).1, ?_⟩
    rw [h1]
    show some (q.1, aV ads v) = some q
    rw [← h2]
theorem aL_has {ads : Nat → Nat} {nL : Nat} {lv : LV} {ls : Array Slot} (h : aL ads nL lv ls) : lv_has ls nL (aLs ads lv) :=
  ⟨h.2.1, h.2.2.1, fun q hq => by obtain ⟨v, h1, h2⟩ := aLs_mem.mp hq; rw [h2]; exact h.2.2.2 _ _ h1⟩
theorem aV_cat (ads : Nat → Nat) (v : AV) : (aV ads v).category = 1 := by cases v <;> rfl
theorem aL_set {ads : Nat → Nat} {nL i : Nat} {lv : LV} {ls ls' : Array Slot} {w : AV} (h : aL ads nL lv ls) (hi : i < nL) (h' : lv_has ls' nL ((i, aV ads w) :: (aLs ads lv).filter (fun q => !(q.1 == i) && !(q.1 + 1 == i && q.2.category == 2)))) : aL ads nL (lv.set i (some w)) ls' := by
  refine ⟨by rw [List.length_set]; exact h.1, h'.1, h'.2.1, fun j v hj => ?_⟩
  by_cases e : j = i
  · subst e
    rw [List.getElem?_set_self (by rw [h.1]; exact hi)] at hj
    cases hj
    exact h'.2.2 (j, aV ads w) List.mem_cons_self
  · rw [List.getElem?_set_ne (fun q => e q.symm)] at hj
    refine h'.2.2 (j, aV ads v) (List.mem_cons_of_mem _ (List.mem_filter.mpr ⟨aLs_mem.mpr ⟨v, hj, rfl⟩, ?_⟩))
    simp [e, aV_cat]
theorem aL_ext {ads ads2 : Nat → Nat} {n nL : Nat} {lv : LV} {ls : Array Slot} {st : List AV} (he : aExt n ads ads2) (hv : aVs n lv st) (h : aL ads nL lv ls) : aL ads2 nL lv ls := by
  refine ⟨h.1, h.2.1, h.2.2.1, fun i v hi => ?_⟩
  rw [h.2.2.2 i v hi]
  have := hv.2 i v hi
  cases v with
  | inl x => rfl
  | inr k => show some (Slot.val (Value.ref (ads k))) = some (Slot.val (Value.ref (ads2 k))); rw [he k this]
theorem aV_ext {ads ads2 : Nat → Nat} {n : Nat} (he : aExt n ads ads2) {v : AV} (h : aOk n v) : aV ads2 v = aV ads v := by
  cases v with
  | inl x => rfl
  | inr k => show Value.ref _ = Value.ref _; rw [he k h]
theorem aVm_ext {ads ads2 : Nat → Nat} {n : Nat} (he : aExt n ads ads2) {st : List AV} (h : ∀ v ∈ st, aOk n v) : st.map (aV ads2) = st.map (aV ads) := List.map_congr_left fun v hv => aV_ext he (h v hv)
theorem aW_len {dA : Nat → ClassId} {ads : Nat → Nat} {h : AH} : (aW dA ads h).length = h.1.length := by simp [aW]
theorem aW_get {dA : Nat → ClassId} {ads : Nat → Nat} {h : AH} {b : Nat} {q : Nat × Nat} (e : h.1[b]? = some q) : (aW dA ads h)[b]? = some (ads (b + 1), aE dA ads h (b + 1) q) := by
  have hb : b < h.1.length := (List.getElem?_eq_some_iff.mp e).1
  unfold aW
  rw [List.getElem?_map, List.getElem?_range hb]
  show some (aCl dA ads h b) = _
  unfold aCl
  rw [List.getD_eq_getElem?_getD, e]
  rfl
theorem aE_kept {dA : Nat → ClassId} {ads ads2 : Nat → Nat} {h h2 : AH} {k : Nat} {q : Nat × Nat} (h1 : ∀ j, h2.2.2 k j = h.2.2 k j) (h3 : ∀ j, aO ads2 (h2.2.1 k j) = aO ads (h.2.1 k j)) : aE dA ads2 h2 k q = aE dA ads h k q := by
  have e : aFv ads2 h2 k q.1 = aFv ads h k q.1 := by funext j; unfold aFv; rw [h1, h3]
  unfold aE
  rw [e]
  simp only [h1, h3]
theorem aW_set {dA : Nat → ClassId} {ads : Nat → Nat} {h h2 : AH} {b : Nat} {q : Nat × Nat} (e : h.1[b]? = some q) (hc : h2.1 = h.1) (hi : ∀ k j, k ≠ b + 1 → h2.2.2 k j = h.2.2 k j) (hr : ∀ k j, k ≠ b + 1 → h2.2.1 k j = h.2.1 k j) : aW dA ads h2 = (aW dA ads h).set b (ads (b + 1), aE dA ads h2 (b + 1) q) := by
  apply List.ext_getElem?
  intro j
  have hb : b < h.1.length := (List.getElem?_eq_some_iff.mp e).1
  by_cases ej : j = b
  · subst ej
    rw [List.getElem?_set_self (by rw [aW_len]; exact hb)]
    exact aW_get (by rw [hc]; exact e)
  · rw [List.getElem?_set_ne (fun q => ej q.symm)]
    by_cases hj : j < h.1.length
    · have e1 : h.1[j]? = some h.1[j] := List.getElem?_eq_getElem hj
      rw [aW_get e1, aW_get (h := h2) (by rw [hc]; exact e1)]
      rw [aE_kept (fun i => hi _ _ (by omega)) (fun i => by rw [hr _ _ (by omega)])]
    · rw [List.getElem?_eq_none (by rw [aW_len, hc]; omega), List.getElem?_eq_none (by rw [aW_len]; omega)]
theorem aW_push {dA : Nat → ClassId} {ads : Nat → Nat} {h : AH} (hw : aWf h) (x : Nat) (q : Nat × Nat) : aW dA (fun k => if k = h.1.length + 1 then x else ads k) (h.1 ++ [q], h.2.1, h.2.2) = aW dA ads h ++ [(x, aE dA ads h (h.1.length + 1) q)] := by
  have ho : ∀ k j, aO (fun k => if k = h.1.length + 1 then x else ads k) (h.2.1 k j) = aO ads (h.2.1 k j) := by
    intro k j
    have := hw.2.1 k j
    unfold aO
    by_cases z : h.2.1 k j = 0
    · rw [if_pos z, if_pos z]
    · rw [if_neg z, if_neg z]
      show some (if h.2.1 k j = h.1.length + 1 then x else ads (h.2.1 k j)) = _
      rw [if_neg (by omega)]
  apply List.ext_getElem?
  intro j
  by_cases hj : j < h.1.length
  · have e1 : h.1[j]? = some h.1[j] := List.getElem?_eq_getElem hj
    rw [List.getElem?_append_left (by rw [aW_len]; exact hj), aW_get e1, aW_get (h := (h.1 ++ [q], h.2.1, h.2.2)) (q := h.1[j]) (by show (h.1 ++ [q])[j]? = _; rw [List.getElem?_append_left hj]; exact e1)]
    have e2 := aE_kept (dA := dA) (ads := ads) (ads2 := fun k => if k = h.1.length + 1 then x else ads k) (h := h) (h2 := (h.1 ++ [q], h.2.1, h.2.2)) (k := j + 1) (q := h.1[j]) (fun i => rfl) (fun i => ho _ _)
    rw [e2, if_neg (by omega)]
  · by_cases hj2 : j = h.1.length
    · subst hj2
      rw [List.getElem?_append_right (by rw [aW_len]; omega), aW_len, Nat.sub_self]
      rw [aW_get (h := (h.1 ++ [q], h.2.1, h.2.2)) (q := q) (by show (h.1 ++ [q])[h.1.length]? = _; simp)]
      have e2 := aE_kept (dA := dA) (ads := ads) (ads2 := fun k => if k = h.1.length + 1 then x else ads k) (h := h) (h2 := (h.1 ++ [q], h.2.1, h.2.2)) (k := h.1.length + 1) (q := q) (fun i => rfl) (fun i => ho _ _)
      rw [e2, if_pos rfl]
      rfl
    · rw [List.getElem?_eq_none (by rw [aW_len]; show (h.1 ++ [q]).length ≤ j; rw [List.length_append, List.length_singleton]; omega), List.getElem?_eq_none (by rw [List.length_append, aW_len, List.length_singleton]; omega)]
theorem aE_obj {dA : Nat → ClassId} {ads : Nat → Nat} {h : AH} {k ci n : Nat} (hc : ci < 7) : aE dA ads h k (ci, n) = .inr (ci, (List.range (cN ci)).map (aFv ads h k ci)) := if_pos hc
theorem aE_refs {dA : Nat → ClassId} {ads : Nat → Nat} {h : AH} {k n : Nat} : aE dA ads h k (11, n) = .inl (dA 11, n, .inr (.inr (.inr (.inr (fun j => aO ads (h.2.1 k j)))))) := rfl
theorem aE_ints {dA : Nat → ClassId} {ads : Nat → Nat} {h : AH} {k kd n : Nat} (h1 : 8 ≤ kd) (h2 : kd ≤ 10) : aE dA ads h k (kd, n) = .inl (dA kd, n, .inl (fun j => oi (h.2.2 k j))) := by
  unfold aE
  rw [if_neg (by show ¬ kd < 7; omega), if_neg (by show ¬ kd = 11; omega)]
