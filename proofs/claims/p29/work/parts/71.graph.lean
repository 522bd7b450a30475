/-! groups and strands: what edges and points tell of them */ -/
theorem sumN_mono {f g : Nat → Int} : ∀ {n : Nat}, (∀ i, i < n → f i ≤ g i) → sumN f n ≤ sumN g n := by
  intro n
  induction n with
  | zero => intro _; exact Int.le_refl _
  | succ n ih =>
    intro h
    have h1 := ih (fun i hi => h i (by omega))
    have h2 := h n (by omega)
    show sumN f n + f n ≤ sumN g n + g n
    omega
theorem sumN_delta {f : Nat → Int} {a : Nat} : ∀ {n : Nat}, a < n → sumN (fun j => if a = j then f j else 0) n = f a := by
  intro n
  induction n with
  | zero => intro h; exact absurd h (Nat.not_lt_zero _)
  | succ n ih =>
    intro h
    show sumN (fun j => if a = j then f j else 0) n + (if a = n then f n else 0) = f a
    by_cases e : a = n
    · subst e
      rw [if_pos rfl, sumN_zero (fun i hi => if_neg (by omega))]; omega
    · rw [if_neg e, ih (by omega)]; omega
theorem sumN_most1 {g : Nat → Int} : ∀ {n : Nat}, (∀ j, j < n → g j = 0 ∨ g j = 1) → (∀ i j, i < n → j < n → g i = 1 → g j = 1 → i = j) → sumN g n ≤ 1 := by
  intro n
  induction n with
  | zero => intro _ _; show (0 : Int) ≤ 1; omega
  | succ n ih =>
    intro h1 h2
    show sumN g n + g n ≤ 1
    rcases h1 n (by omega) with e | e
    · have := ih (fun j hj => h1 j (by omega)) (fun i j hi hj => h2 i j (by omega) (by omega))
      omega
    · rw [sumN_zero (fun i hi => by
        rcases h1 i (by omega) with z | z
        · exact z
        · have := h2 i n (by omega) (by omega) z e
          omega)]
      omega
theorem sumN_even {f g : Nat → Int} : ∀ {n : Nat}, (∀ j, j < n → (f j - g j) % 2 = 0) → (sumN f n - sumN g n) % 2 = 0 := by
  intro n
  induction n with
  | zero => intro _; rfl
  | succ n ih =>
    intro h
    have h1 := ih (fun j hj => h j (by omega))
    have h2 := h n (by omega)
    show (sumN f n + f n - (sumN g n + g n)) % 2 = 0
    omega
/-- each of the c's has one of the z's of its own -/
theorem pig {N M : Nat} {c z : Nat → Int} (f : Nat → Nat) (hc : ∀ j, j < N → c j = 0 ∨ c j = 1) (hz : ∀ m, m < M → 0 ≤ z m) (hf : ∀ j, j < N → c j = 1 → f j < M ∧ 1 ≤ z (f j)) (hi : ∀ i j, i < N → j < N → c i = 1 → c j = 1 → f i = f j → i = j) : sumN c N ≤ sumN z M := by
  have e1 : sumN c N = sumN (fun j => sumN (fun m => if c j = 1 ∧ f j = m then 1 else 0) M) N := sumN_congr fun j hj => by
    rcases hc j hj with e | e
    · rw [e, sumN_zero (fun m _ => if_neg (fun q => by have := q.1; omega))]
    · exact e.trans ((sumN_delta (f := fun _ => 1) (hf j hj e).1).symm.trans (sumN_congr fun m _ => by
        by_cases q : f j = m
        · rw [if_pos q, if_pos ⟨e, q⟩]
        · rw [if_neg q, if_neg (fun y => q y.2)]))
  rw [e1, sumN_swap]
  apply sumN_mono
  intro m hm
  by_cases q : z m = 0
  · have z0 : sumN (fun j => if c j = 1 ∧ f j = m then (1 : Int) else 0) N = 0 := sumN_zero fun j hj => if_neg (fun y => by
      have := (hf j hj y.1).2
      rw [y.2] at this
      omega)
    rw [z0]
    omega
  · have h1 := hz m hm
    have h2 : sumN (fun j => if c j = 1 ∧ f j = m then (1 : Int) else 0) N ≤ 1 := sumN_most1 (fun j _ => by
      by_cases y : c j = 1 ∧ f j = m
      · exact Or.inr (if_pos y)
      · exact Or.inl (if_neg y)) (fun i j hi2 hj a b => by
      have ya : c i = 1 ∧ f i = m := Classical.byContradiction fun y => by rw [if_neg y] at a; omega
      have yb : c j = 1 ∧ f j = m := Classical.byContradiction fun y => by rw [if_neg y] at b; omega
      exact hi i j hi2 hj ya.1 yb.1 (ya.2.trans yb.2.symm))
    omega
theorem least {P : Nat → Prop} : ∀ n, P n → ∃ k, P k ∧ ∀ m, m < k → ¬ P m := by
  intro n
  induction n using Nat.strongRecOn with
  | _ n ih =>
    intro h
    by_cases q : ∃ m, m < n ∧ P m
    · obtain ⟨m, hm, hp⟩ := q
      exact ih m hm hp
    · exact ⟨n, h, fun m hm hp => q ⟨m, hm, hp⟩⟩
section GRAPH
variable {A : Nat → Nat → Prop} {M : Nat} {x : Nat → Int} {s t : Nat → Nat} {pt : Nat → Int}
/-- edges by numbers: bits, ends, the ends at a point -/
def Gr (A : Nat → Nat → Prop) (M : Nat) (x : Nat → Int) (s t : Nat → Nat) (pt : Nat → Int) : Prop :=
  (∀ m, m < M → x m = 0 ∨ x m = 1) ∧ (∀ m, m < M → x m = 1 → s m < 625 ∧ t m < 625 ∧ A (s m) (t m) ∧ A (t m) (s m)) ∧
  (∀ a b, a < 625 → A a b → ∃ m, m < M ∧ x m = 1 ∧ ((s m = a ∧ t m = b) ∨ (s m = b ∧ t m = a))) ∧
  (∀ j, j < 625 → pt j = sumN (fun m => x m * ((if s m = j then 1 else 0) + (if t m = j then 1 else 0))) M)
theorem Gr.hand (G : Gr A M x s t pt) {c : Nat → Int} (hc : ∀ m, m < M → x m = 1 → c (s m) = c (t m)) : sumN (fun j => c j * pt j) 625 = 2 * sumN (fun m => x m * c (s m)) M := by
  have e1 : sumN (fun j => c j * pt j) 625 = sumN (fun j => sumN (fun m => c j * (x m * ((if s m = j then 1 else 0) + (if t m = j then 1 else 0)))) M) 625 := sumN_congr fun j hj => by
    rw [G.2.2.2 j hj, sumN_mul]
  rw [e1, sumN_swap, ← sumN_mul]
  apply sumN_congr
  intro m hm
  rcases G.1 m hm with e | e
  · rw [e, sumN_zero (fun j _ => by rw [Int.zero_mul, Int.mul_zero])]; omega
  · obtain ⟨h1, h2, -⟩ := G.2.1 m hm e
    have h3 := hc m hm e
    rw [e]
    have e2 : sumN (fun j => c j * (1 * ((if s m = j then (1 : Int) else 0) + (if t m = j then 1 else 0)))) 625 = sumN (fun j => (if s m = j then c j else 0) + (if t m = j then c j else 0)) 625 := sumN_congr fun j _ => by
      by_cases q1 : s m = j
      · by_cases q2 : t m = j
        · rw [if_pos q1, if_pos q2, if_pos q1, if_pos q2]; omega
        · rw [if_pos q1, if_neg q2, if_pos q1, if_neg q2]; omega
      · by_cases q2 : t m = j
        · rw [if_neg q1, if_pos q2, if_neg q1, if_pos q2]; omega
        · rw [if_neg q1, if_neg q2, if_neg q1, if_neg q2]; omega
    rw [e2, sumN_add, sumN_delta h1, sumN_delta h2]
    omega
theorem Gr.pos (G : Gr A M x s t pt) {j : Nat} (hj : j < 625) : 0 ≤ pt j ∧ (0 < pt j ↔ ∃ m, m < M ∧ x m = 1 ∧ (s m = j ∨ t m = j)) := by
  have term : ∀ m, m < M → 0 ≤ x m * ((if s m = j then 1 else 0) + (if t m = j then 1 else 0)) := fun m hm => by
    rcases G.1 m hm with e | e
    · rw [e, Int.zero_mul]; omega
    · rw [e, Int.one_mul]; split <;> split <;> omega
  rw [G.2.2.2 j hj]
  refine ⟨sumN_nonneg term, fun h => ?_, fun ⟨m, hm, e, q⟩ => ?_⟩
  · refine Classical.byContradiction fun z => ?_
    rw [sumN_zero (fun m hm => by
      rcases G.1 m hm with e | e
      · rw [e, Int.zero_mul]
      · rw [if_neg (fun y => z ⟨m, hm, e, Or.inl y⟩), if_neg (fun y => z ⟨m, hm, e, Or.inr y⟩)]; omega)] at h
    omega
  · have h1 : sumN (fun m' => if m = m' then (1 : Int) else 0) M ≤ sumN (fun m => x m * ((if s m = j then 1 else 0) + (if t m = j then 1 else 0))) M := sumN_mono fun m' hm' => by
      by_cases y : m = m'
      · subst y
        rw [if_pos rfl, e, Int.one_mul]
        rcases q with q | q
        · rw [if_pos q]; split <;> omega
        · rw [if_pos q]; split <;> omega
      · rw [if_neg y]; exact term m' hm'
    rw [sumN_delta (f := fun _ => 1) hm] at h1
    omega
/-- points as far from p as n edges lead -/
def dst (A : Nat → Nat → Prop) (p : Nat) : Nat → Nat → Prop
  | 0, j => j = p
  | n + 1, j => dst A p n j ∨ ∃ a, dst A p n a ∧ A a j
noncomputable def rk (A : Nat → Nat → Prop) (p j : Nat) : Nat := @dite _ (∃ n, dst A p n j ∧ ∀ m, m < n → ¬ dst A p m j) (Classical.propDecidable _) (fun e => Classical.choose e) (fun _ => 0)
theorem rk_of {p j n : Nat} (h : dst A p n j) : dst A p (rk A p j) j ∧ ∀ m, m < rk A p j → ¬ dst A p m j := by
  have e : ∃ n, dst A p n j ∧ ∀ m, m < n → ¬ dst A p m j := least n h
  unfold rk
  rw [dif_pos e]
  exact Classical.choose_spec e
theorem rk_pred {p j n : Nat} (h : dst A p n j) (hj : j ≠ p) : ∃ a k, A a j ∧ dst A p k a ∧ rk A p a < rk A p j := by
  obtain ⟨h1, h2⟩ := rk_of h
  generalize rk A p j = q at h1 h2 ⊢
  cases q with
  | zero => exact absurd h1 hj
  | succ k =>
    rcases h1 with h1 | ⟨a, h3, h4⟩
    · exact absurd h1 (h2 k (by omega))
    · refine ⟨a, k, h4, h3, ?_⟩
      obtain ⟨-, h6⟩ := rk_of h3
      rcases Nat.lt_or_ge k (rk A p a) with z | z
      · exact absurd h3 (h6 k z)
      · omega
theorem dst_lt (G : Gr A M x s t pt) {p : Nat} (hp0 : p < 625) : ∀ n j, dst A p n j → j < 625 := by
  intro n
  induction n with
  | zero => intro j h; have h : j = p := h; omega
  | succ n ih =>
    intro j h
    rcases h with h | ⟨a, h1, h2⟩
    · exact ih j h
    · obtain ⟨m, hm, e, q⟩ := G.2.2.1 a j (ih a h1) h2
      have := G.2.1 m hm e
      rcases q with q | q <;> omega
/-- the points of a new group -/
noncomputable def nwG (A : Nat → Nat → Prop) (pt : Nat → Int) (p j : Nat) : Int := if cloI A (grS A pt p).1 p j = 1 ∧ (grS A pt p).1 j ≠ 1 then 1 else 0
theorem nwG_b {p j : Nat} : nwG A pt p j = 0 ∨ nwG A pt p j = 1 := by
  unfold nwG
  split
  · exact Or.inr rfl
  · exact Or.inl rfl
theorem nwG_1 {p j : Nat} : nwG A pt p j = 1 ↔ cloI A (grS A pt p).1 p j = 1 ∧ (grS A pt p).1 j ≠ 1 := by
  unfold nwG
  by_cases q : cloI A (grS A pt p).1 p j = 1 ∧ (grS A pt p).1 j ≠ 1
  · rw [if_pos q]; exact ⟨fun _ => q, fun _ => rfl⟩
  · rw [if_neg q]; exact ⟨fun z => by omega, fun z => absurd z q⟩
theorem Gr.sym (G : Gr A M x s t pt) {p : Nat} {m : Nat} (hm : m < M) (e : x m = 1) : ((grS A pt p).1 (s m) = 1 ↔ (grS A pt p).1 (t m) = 1) ∧ (cloI A (grS A pt p).1 p (s m) = 1 ↔ cloI A (grS A pt p).1 p (t m) = 1) := by
  obtain ⟨-, -, h1, h2⟩ := G.2.1 m hm e
  exact ⟨⟨fun z => grS_clo _ _ _ z h1, fun z => grS_clo _ _ _ z h2⟩, fun z => cloI_T ((cloI_1 z).step h1), fun z => cloI_T ((cloI_1 z).step h2)⟩
theorem Gr.nwSym (G : Gr A M x s t pt) {p : Nat} {m : Nat} (hm : m < M) (e : x m = 1) : nwG A pt p (s m) = nwG A pt p (t m) := by
  obtain ⟨h1, h2⟩ := G.sym (p := p) hm e
  unfold nwG
  by_cases q : cloI A (grS A pt p).1 p (s m) = 1 ∧ (grS A pt p).1 (s m) ≠ 1
  · rw [if_pos q, if_pos ⟨h2.mp q.1, fun z => q.2 (h1.mpr z)⟩]
  · rw [if_neg q, if_neg (fun z => q ⟨h2.mpr z.1, fun y => z.2 (h1.mp y)⟩)]
theorem Gr.evenO (G : Gr A M x s t pt) {p : Nat} : grO A pt p % 2 = 0 := by
  have e1 : grO A pt p = sumN (fun j => nwG A pt p j * (pt j % 2)) 625 := sumN_congr fun j _ => by
    unfold nwG
    by_cases q : cloI A (grS A pt p).1 p j = 1 ∧ (grS A pt p).1 j ≠ 1
    · rw [if_pos q, if_pos q]; omega
    · rw [if_neg q, if_neg q]; omega
  have h1 := G.hand (c := nwG A pt p) (fun m hm e => G.nwSym hm e)
  have h2 := sumN_even (f := fun j => nwG A pt p j * pt j) (g := fun j => nwG A pt p j * (pt j % 2)) (n := 625) (fun j _ => by
    rcases nwG_b (A := A) (pt := pt) (p := p) (j := j) with e | e
    · rw [e]; omega
    · rw [e]; omega)
  rw [h1] at h2
  rw [e1]
  generalize sumN (fun m => x m * nwG A pt p (s m)) M = u at h2
  generalize sumN (fun j => nwG A pt p j * (pt j % 2)) 625 = v at h2 ⊢
  omega
/-- the edges of a new group: at least one, and at least as many as its points but one -/
theorem Gr.tree (G : Gr A M x s t pt) {p : Nat} (hp1 : p < 625) (hpos : 0 < pt p) (hr : (grS A pt p).1 p ≠ 1) : 1 ≤ sumN (fun m => x m * nwG A pt p (s m)) M ∧ sumN (nwG A pt p) 625 ≤ sumN (fun m => x m * nwG A pt p (s m)) M + 1 := by
  have hz : ∀ m, m < M → 0 ≤ x m * nwG A pt p (s m) := fun m hm => by
    rcases G.1 m hm with e | e <;> rcases nwG_b (A := A) (pt := pt) (p := p) (j := s m) with f | f <;> rw [e, f] <;> omega
  have inP : nwG A pt p p = 1 := nwG_1.mpr ⟨cloI_T clo.p, hr⟩
  constructor
  · obtain ⟨m, hm, e, q⟩ := (G.pos hp1).2.mp hpos
    have c1 : nwG A pt p (s m) = 1 := by
      rcases q with q | q
      · rw [q]; exact inP
      · rw [G.nwSym hm e, q]; exact inP
    have h1 : sumN (fun m' => if m = m' then (1 : Int) else 0) M ≤ sumN (fun m => x m * nwG A pt p (s m)) M := sumN_mono fun m' hm' => by
      by_cases y : m = m'
      · subst y
        rw [if_pos rfl, e, c1]; omega
      · rw [if_neg y]; exact hz m' hm'
    rw [sumN_delta (f := fun _ => 1) hm] at h1
    exact h1
  · -- all of its points are some edges away
    have far : ∀ j, nwG A pt p j = 1 → ∃ n, dst A p n j := fun j hj => by
      obtain ⟨h1, h2⟩ := nwG_1.mp hj
      rcases cloI_1 h1 (fun j => (∃ n, dst A p n j) ∨ (grS A pt p).1 j = 1) (fun a b ha hab => by
        rcases ha with ⟨n, ha⟩ | ha
        · exact Or.inl ⟨n + 1, Or.inr ⟨a, ha, hab⟩⟩
        · exact Or.inr (grS_clo _ _ _ ha hab)) (fun a _ ha => Or.inr ha) (Or.inl ⟨0, rfl⟩) with z | z
      · exact z
      · exact absurd z h2
    have ed : ∀ j, ∃ m, nwG A pt p j = 1 → j ≠ p → (m < M ∧ x m = 1) ∧ ∃ a, rk A p a < rk A p j ∧ ((s m = a ∧ t m = j) ∨ (s m = j ∧ t m = a)) := fun j => by
      by_cases q : nwG A pt p j = 1 ∧ j ≠ p
      · obtain ⟨n, hn⟩ := far j q.1
        obtain ⟨a, k, h1, h2, h3⟩ := rk_pred hn q.2
        obtain ⟨m, hm, e, y⟩ := G.2.2.1 a j (dst_lt G hp1 _ _ h2) h1
        exact ⟨m, fun _ _ => ⟨⟨hm, e⟩, a, h3, y⟩⟩
      · exact ⟨0, fun a b => absurd ⟨a, b⟩ q⟩
    obtain ⟨f, hf⟩ : ∃ f : Nat → Nat, ∀ j, nwG A pt p j = 1 → j ≠ p → (f j < M ∧ x (f j) = 1) ∧ ∃ a, rk A p a < rk A p j ∧ ((s (f j) = a ∧ t (f j) = j) ∨ (s (f j) = j ∧ t (f j) = a)) := ⟨fun j => Classical.choose (ed j), fun j => Classical.choose_spec (ed j)⟩
    have e1 : sumN (nwG A pt p) 625 = sumN (fun j => if nwG A pt p j = 1 ∧ j ≠ p then 1 else 0) 625 + 1 := by
      have e2 : sumN (nwG A pt p) 625 = sumN (fun j => (if nwG A pt p j = 1 ∧ j ≠ p then 1 else 0) + (if p = j then 1 else 0)) 625 := sumN_congr fun j _ => by
        by_cases y : p = j
        · subst y
          rw [if_neg (fun z => z.2 rfl), if_pos rfl, inP]; rfl
        · rw [if_neg y]
          rcases nwG_b (A := A) (pt := pt) (p := p) (j := j) with z | z
          · rw [if_neg (fun q => by have := q.1; omega), z]; rfl
          · rw [if_pos ⟨z, fun q => y q.symm⟩, z]; rfl
      rw [e2, sumN_add, sumN_delta (f := fun _ => 1) hp1]
    have cj : ∀ j, (if nwG A pt p j = 1 ∧ j ≠ p then (1 : Int) else 0) = 1 → nwG A pt p j = 1 ∧ j ≠ p := fun j h => Classical.byContradiction fun y => by rw [if_neg y] at h; omega
    have := pig (N := 625) (M := M) (c := fun j => if nwG A pt p j = 1 ∧ j ≠ p then 1 else 0) (z := fun m => x m * nwG A pt p (s m)) f (fun j _ => by
      by_cases y : nwG A pt p j = 1 ∧ j ≠ p
      · exact Or.inr (if_pos y)
      · exact Or.inl (if_neg y)) hz (fun j _ hj => by
      obtain ⟨y1, y2⟩ := cj j hj
      obtain ⟨⟨h1, h2⟩, a, h3, h4⟩ := hf j y1 y2
      have c1 : nwG A pt p (s (f j)) = 1 := by
        rcases h4 with h4 | h4
        · rw [G.nwSym h1 h2, h4.2]; exact y1
        · rw [h4.1]; exact y1
      exact ⟨h1, by rw [h2, c1]; omega⟩) (fun i j _ _ hi hj e => by
      obtain ⟨y1, y2⟩ := cj i hi
      obtain ⟨y3, y4⟩ := cj j hj
      obtain ⟨-, a, a1, a2⟩ := hf i y1 y2
      obtain ⟨-, b, b1, b2⟩ := hf j y3 y4
      rw [e] at a2
      rcases a2 with ⟨u1, u2⟩ | ⟨u1, u2⟩ <;> rcases b2 with ⟨v1, v2⟩ | ⟨v1, v2⟩
      · exact u2.symm.trans v2
      · have ea : a = j := u1.symm.trans v1
        have eb : b = i := v2.symm.trans u2
        rw [ea] at a1
        rw [eb] at b1
        omega
      · have ea : a = j := u2.symm.trans v2
        have eb : b = i := v1.symm.trans u1
        rw [ea] at a1
        rw [eb] at b1
        omega
      · exact u1.symm.trans v1)
    omega
theorem Gr.inv (G : Gr A M x s t pt) : ∀ p, p ≤ 625 →
    (grS A pt p).2.1 ≤ sumN (fun m => x m * (if (grS A pt p).1 (s m) = 1 then 1 else 0)) M ∧
    sumN (fun j => if (grS A pt p).1 j = 1 then 1 else 0) 625 ≤ sumN (fun m => x m * (if (grS A pt p).1 (s m) = 1 then 1 else 0)) M + (grS A pt p).2.1 ∧
    (grS A pt p).2.1 ≤ (grS A pt p).2.2.1 ∧ (grS A pt p).2.2.2 ≤ 2 * (grS A pt p).2.2.1 ∧ 2 * (grS A pt p).2.2.1 ≤ (grS A pt p).2.2.2 + 2 * (grS A pt p).2.1 ∧ 0 ≤ (grS A pt p).2.1 ∧ ((grS A pt p).2.1 = 0 → ∀ j, (grS A pt p).1 j ≠ 1) := by
  intro p
  induction p with
  | zero =>
    intro _
    have z : ∀ j, (grS A pt 0).1 j = 0 := fun _ => rfl
    have e1 : sumN (fun m => x m * (if (grS A pt 0).1 (s m) = 1 then 1 else 0)) M = 0 := sumN_zero fun m _ => by rw [z, if_neg (by omega), Int.mul_zero]
    have e2 : sumN (fun j => if (grS A pt 0).1 j = 1 then (1 : Int) else 0) 625 = 0 := sumN_zero fun j _ => by rw [z, if_neg (by omega)]
    rw [e1, e2]
    exact ⟨Int.le_refl _, Int.le_refl _, Int.le_refl _, Int.le_refl _, Int.le_refl _, Int.le_refl _, fun _ j => by rw [z]; omega⟩
  | succ p ih =>
    intro hp1
    obtain ⟨i1, i2, i3, i4, i5, i6, i7⟩ := ih (by omega)
    by_cases q : 0 < pt p ∧ (grS A pt p).1 p ≠ 1
    · have mono : ∀ j, j < 625 → (grS A pt p).1 j = 1 → cloI A (grS A pt p).1 p j = 1 := fun j hj z => cloI_T (fun Q _ z2 _ => z2 j hj z)
      obtain ⟨t1, t2⟩ := G.tree (by omega) q.1 q.2
      have ev := G.evenO (p := p)
      have ob := grO_b (A := A) (pt := pt) (t := p)
      have split : ∀ j, j < 625 → (if cloI A (grS A pt p).1 p j = 1 then (1 : Int) else 0) = (if (grS A pt p).1 j = 1 then 1 else 0) + nwG A pt p j := fun j hj => by
        unfold nwG
        by_cases z : (grS A pt p).1 j = 1
        · rw [if_pos z, if_pos (mono j hj z), if_neg (fun y => y.2 z)]; rfl
        · rw [if_neg z]
          by_cases z2 : cloI A (grS A pt p).1 p j = 1
          · rw [if_pos z2, if_pos ⟨z2, z⟩]; rfl
          · rw [if_neg z2, if_neg (fun y => z2 y.1)]; rfl
      have e1 : sumN (fun m => x m * (if cloI A (grS A pt p).1 p (s m) = 1 then 1 else 0)) M = sumN (fun m => x m * (if (grS A pt p).1 (s m) = 1 then 1 else 0)) M + sumN (fun m => x m * nwG A pt p (s m)) M := by
        rw [← sumN_add]
        apply sumN_congr
        intro m hm
        rcases G.1 m hm with e | e
        · rw [e, Int.zero_mul, Int.zero_mul, Int.zero_mul]; rfl
        · rw [split _ (G.2.1 m hm e).1, Int.mul_add]
      have e2 : sumN (fun j => if cloI A (grS A pt p).1 p j = 1 then (1 : Int) else 0) 625 = sumN (fun j => if (grS A pt p).1 j = 1 then 1 else 0) 625 + sumN (nwG A pt p) 625 := by
        rw [← sumN_add]
        exact sumN_congr split
      rw [grS_T q]
      dsimp only
      rw [e1, e2]
      generalize grO A pt p = o at *
      refine ⟨by omega, by omega, ?_, ?_, ?_, by omega, fun z => by omega⟩
      · split <;> omega
      · split <;> omega
      · split <;> omega
    · rw [grS_F q]
      exact ⟨i1, i2, i3, i4, i5, i6, i7⟩
/-- all of it, at the end -/
theorem Gr.all (G : Gr A M x s t pt) : (grS A pt 625).2.1 ≤ sumN x M ∧ sumN (fun j => if 0 < pt j then 1 else 0) 625 ≤ sumN x M + (grS A pt 625).2.1 ∧ (grS A pt 625).2.1 ≤ (grS A pt 625).2.2.1 ∧ sumN (fun j => pt j % 2) 625 ≤ 2 * (grS A pt 625).2.2.1 ∧ 2 * (grS A pt 625).2.2.1 ≤ sumN (fun j => pt j % 2) 625 + 2 * (grS A pt 625).2.1 ∧ 0 ≤ (grS A pt 625).2.1 ∧ ((grS A pt 625).2.1 = 0 ↔ sumN x M = 0) := by
  obtain ⟨i1, i2, i3, i4, i5, i6, i7⟩ := G.inv 625 (Nat.le_refl _)
  obtain ⟨o1, o2⟩ := grS_odd (A := A) (pt := pt) 625 (Nat.le_refl _)
  have eo : (grS A pt 625).2.2.2 = sumN (fun j => pt j % 2) 625 := by
    rw [o1]
    apply sumN_congr
    intro j hj
    by_cases z : (grS A pt 625).1 j = 1
    · rw [if_pos z]
    · have h1 := (G.pos hj).1
      have h2 : ¬ 0 < pt j := fun y => z (o2 j hj y)
      rw [if_neg z, show pt j = 0 by omega]; rfl
  have ex : sumN (fun m => x m * (if (grS A pt 625).1 (s m) = 1 then 1 else 0)) M ≤ sumN x M := sumN_mono fun m hm => by
    rcases G.1 m hm with e | e
    · rw [e, Int.zero_mul]; omega
    · rw [e, Int.one_mul]; split <;> omega
  have ep : sumN (fun j => if 0 < pt j then (1 : Int) else 0) 625 ≤ sumN (fun j => if (grS A pt 625).1 j = 1 then 1 else 0) 625 := sumN_mono fun j hj => by
    by_cases z : 0 < pt j
    · rw [if_pos z, if_pos (o2 j hj z)]; omega
    · rw [if_neg z]; split <;> omega
  have en : 0 ≤ sumN x M := sumN_nonneg fun m hm => by rcases G.1 m hm with e | e <;> omega
  rw [← eo]
  refine ⟨by omega, by omega, i3, i4, i5, i6, fun z => ?_, fun z => by omega⟩
  have hz : ∀ m, m < M → x m = 0 := fun m hm => by
    rcases G.1 m hm with e | e
    · exact e
    · have := G.2.1 m hm e
      exact absurd (o2 (s m) this.1 ((G.pos this.1).2.mpr ⟨m, hm, e, Or.inl rfl⟩)) (i7 z _)
  exact sumN_zero hz
end GRAPH
