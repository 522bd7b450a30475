/-! the law: nearest -/
section NEAREST
variable {sc : Nat × (Nat → Int)} {g iv iv2 : Nat → Nat → Int} {O : Nat → Nat → Int} {w h n : Nat} {cs : List (Nat × Nat)}
theorem runF_0 {k : Nat} {pl r : Int} (hr : 0 ≤ r ∧ r < nK (gN g) w h k) : runF g w h k pl r 0 = xK (gN g) w h k r.toNat := by
  unfold runF; rw [if_pos hr, if_pos rfl]
theorem runF_1 {k : Nat} {pl r : Int} (hr : 0 ≤ r ∧ r < nK (gN g) w h k) : runF g w h k pl r 1 = yK (gN g) w h k r.toNat := by
  unfold runF; rw [if_pos hr, if_neg (by omega), if_pos rfl]
theorem runF_2 {k : Nat} {pl r : Int} (hr : 0 ≤ r ∧ r < nK (gN g) w h k) : runF g w h k pl r 2 = lK (gN g) w h k r.toNat := by
  unfold runF; rw [if_pos hr, if_neg (by omega), if_neg (by omega), if_pos rfl]
theorem runF_3 {k : Nat} {pl r : Int} (hr : 0 ≤ r ∧ r < nK (gN g) w h k) : runF g w h k pl r 3 = pl := by
  unfold runF; rw [if_pos hr, if_neg (by omega), if_neg (by omega), if_neg (by omega), if_pos rfl]
theorem runF_no {k : Nat} {pl r what : Int} (hr : ¬ (0 ≤ r ∧ r < nK (gN g) w h k)) : runF g w h k pl r what = -1 := if_neg hr
theorem ratF_in {k : Nat} {p : Int} (hp0 : 0 ≤ p) (hpp : p < nK (gN g) w h k) : ratF g O w h k p = O k p.toNat := by
  unfold ratF; rw [if_neg (by omega), if_pos hpp]
def wyF (X Y : Nat → Int) (a b : Nat) : Int := absI (X a - X b) + absI (Y a - Y b)
theorem wyF_w {X Y : Nat → Int} {a b : Nat} : wayF X Y a b = 10 * wyF X Y a b := rfl
set_option maxHeartbeats 2000000 in
theorem nearest_L {k : Nat} {c : Int} (C : Cur g O w h n cs iv) (hk : k < 6) (hc : c = (k : Int) + 1) (hO : ∀ p, p < nK (gN g) w h k → O k p = foK g w h k p) : ∃ iv2, Run sc 112 0 [some (Rf 1), some (I c), none, none, none, none, none, none, none, none] [] (hq cs iv) = some (some (I 1), hq cs iv2) ∧ Cur g O w h n cs iv2 ∧ Hi iv iv2 := by
  obtain ⟨⟨⟨d1, d2, d3, d4, d5, d6⟩, -⟩, -⟩ := id C.1
  obtain ⟨⟨b1, b2⟩, -, -⟩ := C.1.bnd hk
  obtain ⟨iv2, e1, C2, hi, ht⟩ := look_L (sc := sc) C hk hc
  refine ⟨iv2, ?_, C2, hi⟩
  rw [B_L_nearest_0, e1, aBind_some, pushR_some, B_L_nearest_6]
  by_cases c40 : (40 : Int) < nK (gN g) w h k
  · rw [if_pos c40, bck_pos (by omega)]
  rw [if_neg c40, B_L_nearest_15]
  have hX : ∀ r : Nat, r < nK (gN g) w h k → (0 ≤ xK (gN g) w h k r ∧ xK (gN g) w h k r ≤ 24) ∧ 0 ≤ yK (gN g) w h k r ∧ yK (gN g) w h k r ≤ 24 := fun r hr => by have := b2 r hr; omega
  have hab : ∀ a b : Nat, a < nK (gN g) w h k → b < nK (gN g) w h k → (0 ≤ absI (xK (gN g) w h k a - xK (gN g) w h k b) ∧ absI (xK (gN g) w h k a - xK (gN g) w h k b) ≤ 24) ∧ 0 ≤ absI (yK (gN g) w h k a - yK (gN g) w h k b) ∧ absI (yK (gN g) w h k a - yK (gN g) w h k b) ≤ 24 := fun a b ha hb => by
    have := hX a ha
    have := hX b hb
    exact ⟨absI_b (by omega), absI_b (by omega)⟩
  have rat : ∀ p : Nat, p < nK (gN g) w h k → ratF g O w h k (p : Int) = (foO (nK (gN g) w h k) (xK (gN g) w h k) (yK (gN g) w h k) p : Nat) := fun p hpp => by
    rw [ratF_in (by omega) (by omega), Int.toNat_natCast, hO p hpp]; rfl
  have fo : ∀ p : Nat, p < nK (gN g) w h k → foO (nK (gN g) w h k) (xK (gN g) w h k) (yK (gN g) w h k) p < nK (gN g) w h k := fun p hpp => (foO_ok hpp).1
  generalize hF : foO (nK (gN g) w h k) (xK (gN g) w h k) (yK (gN g) w h k) = F at rat fo
  have mn : ∀ i j : Nat, 0 < i → i < j → j < nK (gN g) w h k → wyF (xK (gN g) w h k) (yK (gN g) w h k) (F (i - 1)) (F i) ≤ wyF (xK (gN g) w h k) (yK (gN g) w h k) (F (i - 1)) (F j) ∧ (wyF (xK (gN g) w h k) (yK (gN g) w h k) (F (i - 1)) (F j) = wyF (xK (gN g) w h k) (yK (gN g) w h k) (F (i - 1)) (F i) → F i ≤ F j) := fun i j h1 h2 h3 => by
    have := foO_min (X := xK (gN g) w h k) (Y := yK (gN g) w h k) h1 h2 h3
    rw [hF, wyF_w, wyF_w] at this
    exact ⟨by omega, fun z => this.2 (by omega)⟩
  have f0 : 0 < nK (gN g) w h k → F 0 = 0 := fun z => by rw [← hF]; exact (foO_ok z).2.2.2 rfl
  have rx : ∀ (r : Nat), r < nK (gN g) w h k → Run sc 87 0 [some (Rf 1), some (I c), some (I (r : Int)), some (I 0), none] [] (hq cs iv2) = some (some (I (xK (gN g) w h k r)), hq cs iv2) := fun r hr => by
    rw [run_L C2 hk hc ht, runF_0 (by omega), Int.toNat_natCast]
  have ry : ∀ (r : Nat), r < nK (gN g) w h k → Run sc 87 0 [some (Rf 1), some (I c), some (I (r : Int)), some (I 1), none] [] (hq cs iv2) = some (some (I (yK (gN g) w h k r)), hq cs iv2) := fun r hr => by
    rw [run_L C2 hk hc ht, runF_1 (by omega), Int.toNat_natCast]
  have ra : ∀ (r : Nat), r < nK (gN g) w h k → Run sc 88 0 [some (Rf 1), some (I c), some (I (r : Int)), none] [] (hq cs iv2) = some (some (I (F r : Int)), hq cs iv2) := fun r hr => by
    rw [runAt_L C2 hk hc ht, rat r hr]
  generalize hX' : xK (gN g) w h k = X at *
  generalize hY' : yK (gN g) w h k = Y at *
  generalize hN : nK (gN g) w h k = N at *
  obtain ⟨s, e, -⟩ := loop_ex (fun i (s : Option AV × Option AV × Option AV × Option AV × Option AV × Option AV) => Run sc 112 17 [some (Rf 1), some (I c), some (I (N : Int)), some (I i), s.1, s.2.1, s.2.2.1, s.2.2.2.1, s.2.2.2.2.1, s.2.2.2.2.2] [] (hq cs iv2)) (fun _ _ => True) N 0 (none, none, none, none, none, none) (Nat.zero_le _) trivial (fun i s _ hi _ => by
    obtain ⟨s4, s5, s6, s7, s8, s9⟩ := s
    dsimp only
    -- up to the inner loop
    have up : ∀ q : Nat, q < N → (i = 0 → q = 0) → Run sc 112 35 [some (Rf 1), some (I c), some (I (N : Int)), some (I (i : Int)), s4, s5, s6, s7, s8, s9] [(I (q : Int)), (I c), (Rf 1)] (hq cs iv2) = Run sc 112 107 [some (Rf 1), some (I c), some (I (N : Int)), some (I (i : Int)), some (I (F q : Int)), some (I (F i : Int)), some (I (wyF X Y (F q) (F i))), some (I ((i : Int) + 1)), s8, s9] [] (hq cs iv2) := fun q hq0 hz => by
      have fq := fo q hq0
      have fi := fo i hi
      have a1 := hX _ fq
      have a2 := hX _ fi
      have a3 := hab _ _ fq fi
      rw [B_L_nearest_35, ra q hq0, aBind_some, pushR_some, B_L_nearest_38, ra i hi, aBind_some, pushR_some, B_L_nearest_46, rx _ fq, aBind_some, pushR_some, B_L_nearest_56, rx _ fi, aBind_some, pushR_some, B_L_nearest_64, chk_pos (by omega), size_L (by omega), aBind_some, pushR_some, B_L_nearest_68, ry _ fq, aBind_some, pushR_some, B_L_nearest_76, ry _ fi, aBind_some, pushR_some, B_L_nearest_84, chk_pos (by omega), size_L (by omega), aBind_some, pushR_some, B_L_nearest_88, chk_pos (by omega)]
      have e88 : absI (X (F q) - X (F i)) + absI (Y (F q) - Y (F i)) = wyF X Y (F q) (F i) := rfl
      rw [e88]
      by_cases z : i = 0
      · have zi : (i : Int) = 0 := by omega
        have zb : (F i : Int) = 0 := by rw [z, f0 (by omega)]; rfl
        rw [if_pos zi, if_pos zb, B_L_nearest_102, chk_pos (by omega)]
      · rw [if_neg (by omega), B_L_nearest_102, chk_pos (by omega)]
    by_cases z : i = 0
    · have zi : (i : Int) = 0 := by omega
      refine ⟨(some (I (F 0 : Int)), some (I (F i : Int)), some (I (wyF X Y (F 0) (F i))), some (I ((i : Int) + 1)), s8, s9), ?_, trivial⟩
      dsimp only
      have := up 0 (by omega) (fun _ => rfl)
      rw [B_L_nearest_17, if_pos (by omega), if_pos zi]
      rw [show (((0 : Nat) : Int)) = 0 from rfl] at this
      rw [this, B_L_nearest_107]
      by_cases y : (i : Int) + 1 < N
      · rw [if_pos y, if_neg (by omega), B_L_nearest_198, chk_pos (by omega)]
      · rw [if_neg y, B_L_nearest_198, chk_pos (by omega)]
    · have u1 := up (i - 1) (by omega) (fun y => absurd y z)
      have fq := fo (i - 1) (by omega)
      have fi := fo i hi
      have a3 := hab _ _ fq fi
      obtain ⟨t, e2, -⟩ := loop_ex (fun j (s : Option AV × Option AV) => Run sc 112 107 [some (Rf 1), some (I c), some (I (N : Int)), some (I (i : Int)), some (I (F (i - 1) : Int)), some (I (F i : Int)), some (I (wyF X Y (F (i - 1)) (F i))), some (I j), s.1, s.2] [] (hq cs iv2)) (fun _ _ => True) N (i + 1) (s8, s9) (by omega) trivial (fun j s hj1 hj2 _ => by
        obtain ⟨t8, t9⟩ := s
        have fj := fo j hj2
        have a1 := hX _ fq
        have a2 := hX _ fj
        have a4 := hab _ _ fq fj
        have m := mn i j (by omega) (by omega) hj2
        refine ⟨(some (I (F j : Int)), some (I (wyF X Y (F (i - 1)) (F j)))), ?_, trivial⟩
        dsimp only
        rw [B_L_nearest_107, if_pos (by omega), if_pos (by omega), ra j hj2, aBind_some, pushR_some, B_L_nearest_124, rx _ fq, aBind_some, pushR_some, B_L_nearest_134, rx _ fj, aBind_some, pushR_some, B_L_nearest_142, chk_pos (by omega), size_L (by omega), aBind_some, pushR_some, B_L_nearest_146, ry _ fq, aBind_some, pushR_some, B_L_nearest_154, ry _ fj, aBind_some, pushR_some, B_L_nearest_162, chk_pos (by omega), size_L (by omega), aBind_some, pushR_some, B_L_nearest_166, chk_pos (by omega)]
        have e88 : absI (X (F (i - 1)) - X (F j)) + absI (Y (F (i - 1)) - Y (F j)) = wyF X Y (F (i - 1)) (F j) := rfl
        rw [e88, if_neg (by omega)]
        by_cases y : wyF X Y (F (i - 1)) (F j) = wyF X Y (F (i - 1)) (F i)
        · have := m.2 y
          rw [if_pos y, if_neg (by omega), B_L_nearest_192, chk_pos (by omega)]
        · rw [if_neg y, B_L_nearest_192, chk_pos (by omega)])
      obtain ⟨t8, t9⟩ := t
      dsimp only at e2
      refine ⟨(some (I (F (i - 1) : Int)), some (I (F i : Int)), some (I (wyF X Y (F (i - 1)) (F i))), some (I (N : Int)), t8, t9), ?_, trivial⟩
      dsimp only
      rw [B_L_nearest_17, if_pos (by omega), if_neg (by omega), B_L_nearest_32, chk_pos (by omega)]
      rw [show (((i - 1 : Nat)) : Int) = (i : Int) - 1 by omega] at u1
      rw [u1]
      rw [show (((i + 1 : Nat)) : Int) = (i : Int) + 1 from rfl] at e2
      rw [e2, B_L_nearest_107, if_neg (by omega), B_L_nearest_198, chk_pos (by omega)])
  obtain ⟨s4, s5, s6, s7, s8, s9⟩ := s
  dsimp only at e
  rw [show (((0 : Nat) : Int)) = 0 from rfl] at e
  rw [e, B_L_nearest_17, if_neg (by omega), B_L_nearest_204, bck_pos (by omega)]
end NEAREST
