/-! the back stitches as a graph -/
theorem sum25 {T : Nat → Nat → Int} {W H : Nat} (hW : W ≤ 25) (hH : H ≤ 25) : sumN (fun j => sumN (fun i => T i j) W) H = sumN (fun k => if k % 25 < W ∧ k / 25 < H then T (k % 25) (k / 25) else 0) 625 := by
  rw [show 625 = 25 * 25 from rfl, sumN_lines]
  have e2 : sumN (fun j => sumN (fun i => if (j * 25 + i) % 25 < W ∧ (j * 25 + i) / 25 < H then T ((j * 25 + i) % 25) ((j * 25 + i) / 25) else 0) 25) 25 = sumN (fun j => sumN (fun i => if i < W ∧ j < H then T i j else 0) 25) 25 := sumN_congr fun j _ => sumN_congr fun i hi => by rw [(divmod hi).1, (divmod hi).2]
  rw [e2, sumN_cut (m := H) 25 hH (fun j hj _ => sumN_zero fun i _ => if_neg (by omega))]
  apply sumN_congr
  intro j hj
  rw [sumN_cut (m := W) 25 hW (fun i hi _ => if_neg (by omega))]
  exact (sumN_congr fun i hi => if_pos ⟨hi, hj⟩).symm
theorem mul_ite1 {c : Prop} [Decidable c] {v : Int} : v * (if c then 1 else 0) = if c then v else 0 := by
  by_cases z : c
  · rw [if_pos z, if_pos z, Int.mul_one]
  · rw [if_neg z, if_neg z, Int.mul_zero]
theorem ite_sym {a b : Nat} {v : Int} : (if a = b then v else 0) = if b = a then v else 0 := by
  by_cases z : a = b
  · rw [if_pos z, if_pos z.symm]
  · rw [if_neg z, if_neg (fun y => z y.symm)]
section BMATH
variable {w h : Nat} {U F : Nat → Int}
def eUn (w h : Nat) (U : Nat → Int) (a : Nat) : Int := eU w h U (pX a) (pY a)
def eFn (w h : Nat) (F : Nat → Int) (a : Nat) : Int := eF w h F (pX a) (pY a)
def edX (w h : Nat) (U F : Nat → Int) (m : Nat) : Int := if m < 625 then eUn w h U m else eFn w h F (m - 625)
def edS (m : Nat) : Nat := if m < 625 then m else m - 625
def edT (m : Nat) : Nat := if m < 625 then m + 25 else m - 625 + 1
theorem eUn_out {a : Nat} (h1 : ¬ (a % 25 ≤ w ∧ a / 25 + 1 ≤ h)) : eUn w h U a = 0 := if_neg (by unfold pX pY; omega)
theorem eFn_out {a : Nat} (h1 : ¬ (a % 25 + 1 ≤ w ∧ a / 25 ≤ h)) : eFn w h F a = 0 := if_neg (by unfold pX pY; omega)
theorem edX_lo {m : Nat} (hm : m < 625) : edX w h U F m = eUn w h U m ∧ edS m = m ∧ edT m = m + 25 := ⟨if_pos hm, if_pos hm, if_pos hm⟩
theorem edX_hi {i : Nat} : edX w h U F (625 + i) = eFn w h F i ∧ edS (625 + i) = i ∧ edT (625 + i) = i + 1 := by
  unfold edX edS edT
  rw [if_neg (by omega), if_neg (by omega), if_neg (by omega), show 625 + i - 625 = i by omega]
  exact ⟨rfl, rfl, rfl⟩
theorem sum_shift {f : Nat → Int} {j d : Nat} (hj : j < 625) : sumN (fun m => if m + d = j then f m else 0) 625 = if d ≤ j then f (j - d) else 0 := by
  by_cases q : d ≤ j
  · rw [if_pos q, ← sumN_delta (f := f) (a := j - d) (n := 625) (by omega)]
    apply sumN_congr
    intro m _
    by_cases z : m + d = j
    · rw [if_pos z, if_pos (by omega)]
    · rw [if_neg z, if_neg (by omega)]
  · rw [if_neg q]
    exact sumN_zero fun m _ => if_neg (by omega)
theorem bits_ok (hw : w ≤ 24) (hh : h ≤ 24) (hU : bitB U) (hF : bitB F) (a : Nat) : (0 ≤ eUn w h U a ∧ eUn w h U a ≤ 1) ∧ 0 ≤ eFn w h F a ∧ eFn w h F a ≤ 1 := ⟨eU_b hU (by omega) (by omega), eF_b hF (by omega) (by omega)⟩
theorem edge_cases {m : Nat} (hm : m < 1250) : m < 625 ∨ ∃ i, i < 625 ∧ m = 625 + i := by
  by_cases q : m < 625
  · exact Or.inl q
  · exact Or.inr ⟨m - 625, by omega, by omega⟩
set_option maxHeartbeats 2000000 in
theorem ptN_sum (hw : w ≤ 24) (hh : h ≤ 24) {j : Nat} (hj : j < 625) : ptN w h U F j = sumN (fun m => edX w h U F m * ((if edS m = j then 1 else 0) + (if edT m = j then 1 else 0))) 1250 := by
  rw [show 1250 = 625 + 625 from rfl, sumN_app]
  have e1 : sumN (fun m => edX w h U F m * ((if edS m = j then 1 else 0) + (if edT m = j then 1 else 0))) 625 = eUn w h U j + (if 25 ≤ j then eUn w h U (j - 25) else 0) := by
    rw [← sum_shift (f := eUn w h U) (d := 25) hj, ← sumN_delta (f := eUn w h U) hj, ← sumN_add]
    apply sumN_congr
    intro m hm
    obtain ⟨a, b, c⟩ := edX_lo (w := w) (h := h) (U := U) (F := F) hm
    rw [a, b, c, Int.mul_add]
    rw [mul_ite1, mul_ite1, ite_sym (a := m) (b := j)]
  have e2 : sumN (fun i => edX w h U F (625 + i) * ((if edS (625 + i) = j then 1 else 0) + (if edT (625 + i) = j then 1 else 0))) 625 = eFn w h F j + (if 1 ≤ j then eFn w h F (j - 1) else 0) := by
    rw [← sum_shift (f := eFn w h F) (d := 1) hj, ← sumN_delta (f := eFn w h F) hj, ← sumN_add]
    apply sumN_congr
    intro m hm
    obtain ⟨a, b, c⟩ := edX_hi (w := w) (h := h) (U := U) (F := F) (i := m)
    rw [a, b, c, Int.mul_add]
    rw [mul_ite1, mul_ite1, ite_sym (a := m) (b := j)]
  rw [e1, e2]
  have f1 : eU w h U (pX j) (pY j - 1) = if 25 ≤ j then eUn w h U (j - 25) else 0 := by
    by_cases z : 25 ≤ j
    · rw [if_pos z]
      unfold eUn
      rw [show pX (j - 25) = pX j by unfold pX; omega, show pY (j - 25) = pY j - 1 by unfold pY; omega]
    · rw [if_neg z]
      exact if_neg (by unfold pX pY; omega)
  have f2 : eF w h F (pX j - 1) (pY j) = if 1 ≤ j then eFn w h F (j - 1) else 0 := by
    by_cases z : 1 ≤ j % 25
    · rw [if_pos (by omega)]
      unfold eFn
      rw [show pX (j - 1) = pX j - 1 by unfold pX; omega, show pY (j - 1) = pY j by unfold pY; omega]
    · have g1 : eF w h F (pX j - 1) (pY j) = 0 := if_neg (by unfold pX pY; omega)
      rw [g1]
      by_cases y : 1 ≤ j
      · rw [if_pos y, eFn_out (by omega)]
      · rw [if_neg y]
  unfold ptN ptF
  rw [f1, f2]
  unfold eUn eFn
  omega
set_option maxHeartbeats 2000000 in
theorem grOK2 (hw : w ≤ 24) (hh : h ≤ 24) (hU : bitB U) (hF : bitB F) : Gr (adjP w h U F) 1250 (edX w h U F) edS edT (ptN w h U F) := by
  refine ⟨fun m hm => ?_, fun m hm e => ?_, fun a b ha hA => ?_, fun j hj => ptN_sum hw hh hj⟩
  · rcases edge_cases hm with q | ⟨i, hi, rfl⟩
    · rw [(edX_lo q).1]
      have := (bits_ok hw hh hU hF m).1
      omega
    · rw [edX_hi.1]
      have := (bits_ok hw hh hU hF i).2
      omega
  · rcases edge_cases hm with q | ⟨i, hi, rfl⟩
    · obtain ⟨a, b, c⟩ := edX_lo (w := w) (h := h) (U := U) (F := F) q
      rw [a] at e
      have hin : m % 25 ≤ w ∧ m / 25 + 1 ≤ h := Classical.byContradiction fun z => by rw [eUn_out z] at e; omega
      rw [b, c]
      refine ⟨q, by omega, Or.inl ⟨e, rfl⟩, Or.inr (Or.inl ⟨?_, rfl⟩)⟩
      rw [show (m + 25) % 25 = m % 25 by omega, show (((m + 25) / 25 : Nat) : Int) - 1 = ((m / 25 : Nat) : Int) by omega]
      exact e
    · obtain ⟨a, b, c⟩ := edX_hi (w := w) (h := h) (U := U) (F := F) (i := i)
      rw [a] at e
      have hin : i % 25 + 1 ≤ w ∧ i / 25 ≤ h := Classical.byContradiction fun z => by rw [eFn_out z] at e; omega
      rw [b, c]
      refine ⟨hi, by omega, Or.inr (Or.inr (Or.inl ⟨e, rfl⟩)), Or.inr (Or.inr (Or.inr ⟨?_, rfl⟩))⟩
      rw [show (((i + 1) % 25 : Nat) : Int) - 1 = ((i % 25 : Nat) : Int) by omega, show (i + 1) / 25 = i / 25 by omega]
      exact e
  · rcases hA with ⟨e, q⟩ | ⟨e, q⟩ | ⟨e, q⟩ | ⟨e, q⟩
    · obtain ⟨x1, x2, x3⟩ := edX_lo (w := w) (h := h) (U := U) (F := F) ha
      exact ⟨a, by omega, by rw [x1]; exact e, Or.inl ⟨x2, by rw [x3]; exact q.symm⟩⟩
    · have hb : b < 625 := by omega
      obtain ⟨x1, x2, x3⟩ := edX_lo (w := w) (h := h) (U := U) (F := F) hb
      refine ⟨b, by omega, ?_, Or.inr ⟨x2, by rw [x3]; exact q⟩⟩
      rw [x1]
      unfold eUn
      rw [show pX b = ((a % 25 : Nat) : Int) by unfold pX; omega, show pY b = ((a / 25 : Nat) : Int) - 1 by unfold pY; omega]
      exact e
    · obtain ⟨x1, x2, x3⟩ := edX_hi (w := w) (h := h) (U := U) (F := F) (i := a)
      exact ⟨625 + a, by omega, by rw [x1]; exact e, Or.inl ⟨x2, by rw [x3]; exact q.symm⟩⟩
    · have hin : 1 ≤ a % 25 := Classical.byContradiction fun z => by
        have g1 : eF w h F (((a % 25 : Nat) : Int) - 1) ((a / 25 : Nat) : Int) = 0 := if_neg (by omega)
        rw [g1] at e; omega
      obtain ⟨x1, x2, x3⟩ := edX_hi (w := w) (h := h) (U := U) (F := F) (i := b)
      refine ⟨625 + b, by omega, ?_, Or.inr ⟨x2, by rw [x3]; exact q⟩⟩
      rw [x1]
      unfold eFn
      rw [show pX b = ((a % 25 : Nat) : Int) - 1 by unfold pX; omega, show pY b = ((a / 25 : Nat) : Int) by unfold pY; omega]
      exact e
theorem edgC_x (hw : w ≤ 24) (hh : h ≤ 24) : edgC w h U F = sumN (edX w h U F) 1250 := by
  unfold edgC
  rw [sum25 (T := fun i j => eU w h U i j + eF w h F i j) (by omega) (by omega), show 1250 = 625 + 625 from rfl, sumN_app]
  have e1 : sumN (edX w h U F) 625 = sumN (eUn w h U) 625 := sumN_congr fun m hm => (edX_lo hm).1
  have e2 : sumN (fun i => edX w h U F (625 + i)) 625 = sumN (eFn w h F) 625 := sumN_congr fun m _ => edX_hi.1
  rw [e1, e2, ← sumN_add]
  apply sumN_congr
  intro k _
  by_cases z : k % 25 < w + 1 ∧ k / 25 < h + 1
  · rw [if_pos z]; rfl
  · rw [if_neg z, eUn_out (by omega), eFn_out (by omega)]; rfl
theorem oddC_x (hw : w ≤ 24) (hh : h ≤ 24) : oddC w h U F = sumN (fun j => ptN w h U F j % 2) 625 := by
  unfold oddC
  rw [sum25 (T := fun i j => ptF w h U F i j % 2) (by omega) (by omega)]
  apply sumN_congr
  intro k _
  by_cases z : k % 25 < w + 1 ∧ k / 25 < h + 1
  · rw [if_pos z]; rfl
  · rw [if_neg z, ptN_0 (by omega)]; rfl
/-- the points with back stitches -/
def ptsC (w h : Nat) (U F : Nat → Int) : Int := sumN (fun j => sumN (fun i => if 0 < ptF w h U F i j then 1 else 0) (w + 1)) (h + 1)
theorem ptsC_x (hw : w ≤ 24) (hh : h ≤ 24) : ptsC w h U F = sumN (fun j => if 0 < ptN w h U F j then 1 else 0) 625 := by
  unfold ptsC
  rw [sum25 (T := fun i j => if 0 < ptF w h U F i j then 1 else 0) (by omega) (by omega)]
  apply sumN_congr
  intro k _
  by_cases z : k % 25 < w + 1 ∧ k / 25 < h + 1
  · rw [if_pos z]; rfl
  · rw [if_neg z, ptN_0 (by omega), if_neg (by omega)]
/-- groups and strands between their bounds -/
theorem backs_math (hw : w ≤ 24) (hh : h ≤ 24) (hU : bitB U) (hF : bitB F) : grC w h U F ≤ edgC w h U F ∧ ptsC w h U F ≤ edgC w h U F + grC w h U F ∧ grC w h U F ≤ stC w h U F ∧ oddC w h U F ≤ 2 * stC w h U F ∧ 2 * stC w h U F ≤ oddC w h U F + 2 * grC w h U F ∧ 0 ≤ grC w h U F ∧ (grC w h U F = 0 ↔ edgC w h U F = 0) := by
  have := (grOK2 hw hh hU hF).all
  rw [edgC_x hw hh, ptsC_x hw hh, oddC_x hw hh]
  exact this
end BMATH
