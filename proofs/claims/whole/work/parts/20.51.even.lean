/-- what has come to cell a from the pairs of the cells before c -/
def yMv (C : Nat → Int32) (p : Int32) (f c a : Nat) : Int32 :=
  ((0 + (if 6 ≤ a ∧ a < c + 6 then (C (f + (a - 6)) - C (f + a)) / p else 0)) + (if 0 < a % 6 ∧ a < c + 1 then (C (f + (a - 1)) - C (f + a)) / p else 0)) - (if a < c ∧ a % 6 < 5 then (C (f + a) - C (f + (a + 1))) / p else 0) - (if a < c ∧ a < 24 then (C (f + a) - C (f + (a + 6))) / p else 0)
section YM
variable {C : Nat → Int32} {p : Int32} {f c a : Nat}
theorem yMv_0 : yMv C p f 0 a = 0 := by
  unfold yMv
  rw [if_neg (by omega), if_neg (by omega), if_neg (by omega), if_neg (by omega)]
  simp only [Int32.add_zero, Int32.sub_zero]
theorem yMv_o (h1 : a ≠ c) (h2 : a ≠ c + 1) (h3 : a ≠ c + 6) : yMv C p f (c + 1) a = yMv C p f c a := by
  have e1 : (6 ≤ a ∧ a < c + 1 + 6) = (6 ≤ a ∧ a < c + 6) := propext (by omega)
  have e2 : (0 < a % 6 ∧ a < c + 1 + 1) = (0 < a % 6 ∧ a < c + 1) := propext (by omega)
  have e3 : (a < c + 1 ∧ a % 6 < 5) = (a < c ∧ a % 6 < 5) := propext (by omega)
  have e4 : (a < c + 1 ∧ a < 24) = (a < c ∧ a < 24) := propext (by omega)
  unfold yMv
  simp only [e1, e2, e3, e4]
theorem yMv_c : yMv C p f (c + 1) c = yMv C p f c c - (if c % 6 < 5 then (C (f + c) - C (f + (c + 1))) / p else 0) - (if c < 24 then (C (f + c) - C (f + (c + 6))) / p else 0) := by
  have e1 : (6 ≤ c ∧ c < c + 1 + 6) = (6 ≤ c ∧ c < c + 6) := propext (by omega)
  have e2 : (0 < c % 6 ∧ c < c + 1 + 1) = (0 < c % 6 ∧ c < c + 1) := propext (by omega)
  have e3 : (c < c + 1 ∧ c % 6 < 5) = (c % 6 < 5) := propext (by omega)
  have e4 : (c < c + 1 ∧ c < 24) = (c < 24) := propext (by omega)
  have e5 : (c < c ∧ c % 6 < 5) = False := eq_false (by omega)
  have e6 : (c < c ∧ c < 24) = False := eq_false (by omega)
  unfold yMv
  simp only [e1, e2, e3, e4, e5, e6, if_false, Int32.sub_zero]
theorem yMv_1 : yMv C p f (c + 1) (c + 1) = if c % 6 < 5 then yMv C p f c (c + 1) + (C (f + c) - C (f + (c + 1))) / p else yMv C p f c (c + 1) := by
  have e1 : (6 ≤ c + 1 ∧ c + 1 < c + 1 + 6) = (6 ≤ c + 1 ∧ c + 1 < c + 6) := propext (by omega)
  have e3 : (c + 1 < c + 1 ∧ (c + 1) % 6 < 5) = False := eq_false (by omega)
  have e4 : (c + 1 < c + 1 ∧ c + 1 < 24) = False := eq_false (by omega)
  have e5 : (c + 1 < c ∧ (c + 1) % 6 < 5) = False := eq_false (by omega)
  have e6 : (c + 1 < c ∧ c + 1 < 24) = False := eq_false (by omega)
  have e7 : (0 < (c + 1) % 6 ∧ c + 1 < c + 1) = False := eq_false (by omega)
  by_cases h : c % 6 < 5
  · have e2 : (0 < (c + 1) % 6 ∧ c + 1 < c + 1 + 1) = True := eq_true (by omega)
    rw [if_pos h]
    unfold yMv
    simp only [e1, e2, e3, e4, e5, e6, e7, if_false, if_true, Int32.sub_zero, Int32.add_zero, Nat.add_sub_cancel]
  · have e2 : (0 < (c + 1) % 6 ∧ c + 1 < c + 1 + 1) = False := eq_false (by omega)
    rw [if_neg h]
    unfold yMv
    simp only [e1, e2, e3, e4, e5, e6, e7, if_false]
theorem yMv_6 : yMv C p f (c + 1) (c + 6) = yMv C p f c (c + 6) + (C (f + c) - C (f + (c + 6))) / p := by
  have e1 : (6 ≤ c + 6 ∧ c + 6 < c + 1 + 6) = True := eq_true (by omega)
  have e1' : (6 ≤ c + 6 ∧ c + 6 < c + 6) = False := eq_false (by omega)
  have e2 : (0 < (c + 6) % 6 ∧ c + 6 < c + 1 + 1) = False := eq_false (by omega)
  have e7 : (0 < (c + 6) % 6 ∧ c + 6 < c + 1) = False := eq_false (by omega)
  have e3 : (c + 6 < c + 1 ∧ (c + 6) % 6 < 5) = False := eq_false (by omega)
  have e4 : (c + 6 < c + 1 ∧ c + 6 < 24) = False := eq_false (by omega)
  have e5 : (c + 6 < c ∧ (c + 6) % 6 < 5) = False := eq_false (by omega)
  have e6 : (c + 6 < c ∧ c + 6 < 24) = False := eq_false (by omega)
  unfold yMv
  simp only [e1, e1', e2, e3, e4, e5, e6, e7, if_false, if_true, Int32.sub_zero, Int32.add_zero, Nat.add_sub_cancel]
end YM
theorem s_move {v0 : Nat} {w : zWd} {a b : Nat} (ha : a < 30) (hb : b < 30) (hab : a ≠ b) (n : Int32) : ∃ w', mX0_move v0 (nI a) (nI b) n w = some ((), w') ∧ (∀ x, x ≠ v0 + 9 → w' x = w x) ∧ ∀ j, w' (v0 + 9) j = if j = a then w (v0 + 9) a - n else if j = b then w (v0 + 9) b + n else w (v0 + 9) j := by
  refine ⟨zup (zup w (v0 + 9) a (w (v0 + 9) a - n)) (v0 + 9) b (w (v0 + 9) b + n), ?_, fun x hx => by rw [zpE _ _ _ hx, zpE _ _ _ hx], fun j => ?_⟩
  · unfold mX0_move
    simp (disch := (first | omega | (simp (disch := omega) only [zu1, zu2, zu3, nIi]; omega))) only [if_true, if_false, zE10, zE00, zOkN, Nat.reduceAdd, Nat.reduceMul, zcl_s, zif01, zbn_e, nIi, nI_clamp, nI_add, nI_1, pk_mul, zgi, zlt, zle, Int32.zero_add, Int32.add_zero, C0, C1, G0, G1, Nat.zero_add, Nat.add_zero, l2, l3, l4, l5, l6, l7, l8, l10, l11, l12, l20, l30, l48, l50, l60, l100, l120, l140, l152, l164, l176, l188, l200, l212, l224, l1604, l1880, l2000, l2008, l2016, l2024, l2032, l2040, l2048, l2210, l2240, l2270, l2300, l2330, l2390, l2450, l2510, l2570, l2590, l2620, l2650, l2660, l2700, T0, T1, Tm1, Tm99, Tm999, p_within, p_in, p_isCell, p_isOwner, p_isDay11, p_isDay12, p_isTap11, p_isTaker11, if_pos, if_neg, p_isTap12, p_isTaker12, p_isGone, zu1, zu2, zu3, nIe, Nat.reduceSub]
  · by_cases e : j = b
    · rw [e, zu3, if_neg (Ne.symm hab), if_pos rfl]
    · rw [zu2 _ _ e]
      by_cases e2 : j = a
      · rw [e2, zu3, if_pos rfl]
      · rw [zu2 _ _ e2, if_neg e2, if_neg e]
theorem s_even {v0 : Nat} {w : zWd} {a : Nat} (ha : a < 2) {p : Int32} (hp : ¬ p = 0) : ∃ w', mX0_even v0 (nI a) p w = some ((), w') ∧ (∀ x, x ≠ v0 + 1 → x ≠ v0 + 9 → w' x = w x) ∧ ∀ j, w' (v0 + 1) j = if 30 * a ≤ j ∧ j < 30 * a + 30 then w (v0 + 1) j + yMv (w (v0 + 1)) p (30 * a) 30 (j - 30 * a) else w (v0 + 1) j := by
  have l3 : ∀ u : zWd, (∀ j, j < 30 → u (v0 + 9) j = yMv (w (v0 + 1)) p (30 * a) 30 j) → (∀ x, x ≠ v0 + 9 → u x = w x) → ∃ w', mX0_even_135 v0 (nI (30 * a)) 0 u = some ((), w') ∧ (∀ x, x ≠ v0 + 1 → x ≠ v0 + 9 → w' x = w x) ∧ ∀ j, w' (v0 + 1) j = if 30 * a ≤ j ∧ j < 30 * a + 30 then w (v0 + 1) j + yMv (w (v0 + 1)) p (30 * a) 30 (j - 30 * a) else w (v0 + 1) j := by
    intro u h1 h2
    unfold mX0_even_135
    refine zlp_R (R := fun (Y : Option (Unit × zWd)) => ∃ w', Y = some ((), w') ∧ (∀ x, x ≠ v0 + 1 → x ≠ v0 + 9 → w' x = w x) ∧ ∀ j, w' (v0 + 1) j = if 30 * a ≤ j ∧ j < 30 * a + 30 then w (v0 + 1) j + yMv (w (v0 + 1)) p (30 * a) 30 (j - 30 * a) else w (v0 + 1) j)
      (P := fun (i : Nat) (q : Int32 × zWd) => ∃ u', q = (nI i, u') ∧ (∀ x, x ≠ v0 + 1 → u' x = u x) ∧ ∀ j, u' (v0 + 1) j = if 30 * a ≤ j ∧ j < 30 * a + i then w (v0 + 1) j + yMv (w (v0 + 1)) p (30 * a) 30 (j - 30 * a) else w (v0 + 1) j) (n := 30) (by unfold zFU; omega) ?_ ⟨u, rfl, fun _ _ => rfl, fun j => by rw [if_neg (by omega), h2 (v0 + 1) (by omega)]⟩
    rintro i hi q ⟨u1, rfl, g1, g2⟩ k hk
    simp only [mX0_even_135b]
    by_cases e : i = 30
    · subst e
      rw [if_pos (by decide)]
      exact ⟨u1, rfl, fun x hx1 hx9 => by rw [g1 x hx1, h2 x hx9], g2⟩
    · rw [if_neg (show ¬ (30 : Int32) ≤ nI i from nI_ge (b := 30) (by omega) (by decide)), nI_add, zgd_t (show zin (nI (30 * a + i)) 120 from vp_in_nI (by omega) (by decide)), zgd_t (show zin (nI i) 30 from vp_in_nI (by omega) (by decide)), zgd_t (show zin (nI (30 * a + i)) 120 from vp_in_nI (by omega) (by decide)), zbn_e, ← nI_succ]
      simp only [nI_clamp (show 30 * a + i < 2 ^ 31 by omega), nI_clamp (show i < 2 ^ 31 by omega)]
      refine hk (by omega) _ ⟨_, rfl, fun x hx => by rw [zpE _ _ _ hx]; exact g1 x hx, fun j => ?_⟩
      by_cases ej : j = 30 * a + i
      · rw [ej, zu3, g2, if_neg (by omega), if_pos (by omega), g1 (v0 + 9) (by omega), h1 i (by omega)]
        rw [show 30 * a + i - 30 * a = i by omega]
      · rw [zu2 _ _ ej, g2]
        by_cases c : 30 * a ≤ j ∧ j < 30 * a + i
        · rw [if_pos c, if_pos (by omega)]
        · rw [if_neg c, if_neg (by omega)]
  have l2 : ∀ u : zWd, (∀ j, j < 30 → u (v0 + 9) j = 0) → (∀ x, x ≠ v0 + 9 → u x = w x) → ∃ w', mX0_even_32 v0 p (nI (30 * a)) 0 u = some ((), w') ∧ (∀ x, x ≠ v0 + 1 → x ≠ v0 + 9 → w' x = w x) ∧ ∀ j, w' (v0 + 1) j = if 30 * a ≤ j ∧ j < 30 * a + 30 then w (v0 + 1) j + yMv (w (v0 + 1)) p (30 * a) 30 (j - 30 * a) else w (v0 + 1) j := by
    intro u h1 h2
    unfold mX0_even_32
    refine zlp_R (R := fun (Y : Option (Unit × zWd)) => ∃ w', Y = some ((), w') ∧ (∀ x, x ≠ v0 + 1 → x ≠ v0 + 9 → w' x = w x) ∧ ∀ j, w' (v0 + 1) j = if 30 * a ≤ j ∧ j < 30 * a + 30 then w (v0 + 1) j + yMv (w (v0 + 1)) p (30 * a) 30 (j - 30 * a) else w (v0 + 1) j)
      (P := fun (i : Nat) (q : Int32 × zWd) => ∃ u', q = (nI i, u') ∧ (∀ x, x ≠ v0 + 9 → u' x = w x) ∧ ∀ j, j < 30 → u' (v0 + 9) j = yMv (w (v0 + 1)) p (30 * a) i j) (n := 30) (by unfold zFU; omega) ?_ ⟨u, rfl, h2, fun j hj => by rw [yMv_0]; exact h1 j hj⟩
    rintro i hi q ⟨u1, rfl, g1, g2⟩ k hk
    simp only [mX0_even_32b]
    by_cases e : i = 30
    · subst e
      rw [if_pos (by decide)]
      exact l3 u1 g2 g1
    have hi2 : i < 30 := by omega
    have hmod : nI i - nI i / 6 * 6 = nI (i % 6) := pk_rem (d := 6) (by omega) (by decide) (by decide)
    rw [if_neg (show ¬ (30 : Int32) ≤ nI i from nI_ge (b := 30) (by omega) (by decide)), hmod]
    have f1 : u1 (v0 + 1) = w (v0 + 1) := g1 _ (by omega)
    -- the one below
    have down : ∀ u2 : zWd, (∀ x, x ≠ v0 + 9 → u2 x = w x) → (∀ j, j < 30 → u2 (v0 + 9) j = if j = i then yMv (w (v0 + 1)) p (30 * a) i i - (if i % 6 < 5 then (w (v0 + 1) (30 * a + i) - w (v0 + 1) (30 * a + (i + 1))) / p else 0) else if j = i + 1 then yMv (w (v0 + 1)) p (30 * a) (i + 1) (i + 1) else yMv (w (v0 + 1)) p (30 * a) i j) → ∃ w', mX0_even_81 k v0 p (nI (30 * a)) (nI i) u2 = some ((), w') ∧ (∀ x, x ≠ v0 + 1 → x ≠ v0 + 9 → w' x = w x) ∧ ∀ j, w' (v0 + 1) j = if 30 * a ≤ j ∧ j < 30 * a + 30 then w (v0 + 1) j + yMv (w (v0 + 1)) p (30 * a) 30 (j - 30 * a) else w (v0 + 1) j := by
      intro u2 q1 q2
      have f2 : u2 (v0 + 1) = w (v0 + 1) := q1 _ (by omega)
      simp only [mX0_even_81, mX0_even_126]
      rw [show nI i + 6 = nI (i + 6) from nI_add i 6]
      by_cases c : i < 24
      · have e6 : nI (30 * a) + nI i + 6 = nI (30 * a + (i + 6)) := by rw [nI_add]; exact (nI_add (30 * a + i) 6).trans (by congr 1)
        obtain ⟨u3, m1, m2, m3⟩ := s_move (v0 := v0) (w := u2) (a := i) (b := i + 6) hi2 (by omega) (by omega) ((w (v0 + 1) (30 * a + i) - w (v0 + 1) (30 * a + (i + 6))) / p)
        rw [if_neg (show ¬ (30 : Int32) ≤ nI (i + 6) from nI_ge (b := 30) (by omega) (by decide)), e6, nI_add, zgd_t (show zin (nI (30 * a + i)) 120 from vp_in_nI (by omega) (by decide)), zgd_t (show zin (nI (30 * a + (i + 6))) 120 from vp_in_nI (by omega) (by decide)), zgd_t hp, f2]
        simp only [nI_clamp (show 30 * a + i < 2 ^ 31 by omega), nI_clamp (show 30 * a + (i + 6) < 2 ^ 31 by omega)]
        rw [m1, zcl_s, ← nI_succ]
        refine hk hi2 _ ⟨u3, rfl, fun x hx => by rw [m2 x hx]; exact q1 x hx, fun j hj => ?_⟩
        rw [m3 j]
        by_cases j1 : j = i
        · rw [if_pos j1, j1, q2 i hi2, if_pos rfl, yMv_c, if_pos c]
        rw [if_neg j1]
        by_cases j6 : j = i + 6
        · rw [if_pos j6, j6, q2 (i + 6) (by omega), if_neg (by omega), if_neg (by omega), yMv_6]
        rw [if_neg j6, q2 j hj, if_neg j1]
        by_cases j2 : j = i + 1
        · rw [if_pos j2, j2]
        · rw [if_neg j2, yMv_o j1 j2 j6]
      · rw [if_pos (show (30 : Int32) ≤ nI (i + 6) from nI_le (a := 30) (by omega) (by omega)), ← nI_succ]
        refine hk hi2 _ ⟨u2, rfl, q1, fun j hj => ?_⟩
        rw [q2 j hj]
        by_cases j1 : j = i
        · rw [if_pos j1, j1, yMv_c, if_neg c, Int32.sub_zero]
        rw [if_neg j1]
        by_cases j2 : j = i + 1
        · rw [if_pos j2, j2]
        · rw [if_neg j2, yMv_o j1 j2 (by omega)]
    by_cases c : i % 6 < 5
    · have e1 : nI (30 * a) + nI i + 1 = nI (30 * a + (i + 1)) := by rw [nI_add, ← nI_succ]; rfl
      obtain ⟨u2, m1, m2, m3⟩ := s_move (v0 := v0) (w := u1) (a := i) (b := i + 1) hi2 (by omega) (by omega) ((w (v0 + 1) (30 * a + i) - w (v0 + 1) (30 * a + (i + 1))) / p)
      rw [if_neg (show ¬ (5 : Int32) ≤ nI (i % 6) from nI_ge (b := 5) (by omega) (by decide)), e1, nI_add, zgd_t (show zin (nI (30 * a + i)) 120 from vp_in_nI (by omega) (by decide)), zgd_t (show zin (nI (30 * a + (i + 1))) 120 from vp_in_nI (by omega) (by decide)), zgd_t hp, f1]
      simp only [nI_clamp (show 30 * a + i < 2 ^ 31 by omega), nI_clamp (show 30 * a + (i + 1) < 2 ^ 31 by omega)]
      rw [← nI_succ i, m1, zcl_s]
      refine down u2 (fun x hx => by rw [m2 x hx]; exact g1 x hx) (fun j hj => ?_)
      rw [m3 j]
      by_cases j1 : j = i
      · rw [if_pos j1, if_pos j1, g2 i hi2, if_pos c]
      rw [if_neg j1, if_neg j1]
      by_cases j2 : j = i + 1
      · rw [if_pos j2, if_pos j2, g2 (i + 1) (by omega), yMv_1, if_pos c]
      · rw [if_neg j2, if_neg j2, g2 j hj]
    · rw [if_pos (show (5 : Int32) ≤ nI (i % 6) from nI_le (a := 5) (by omega) (by omega))]
      refine down u1 g1 (fun j hj => ?_)
      by_cases j1 : j = i
      · rw [if_pos j1, if_neg c, Int32.sub_zero, j1, g2 i hi2]
      rw [if_neg j1]
      by_cases j2 : j = i + 1
      · rw [if_pos j2, yMv_1, if_neg c, j2, g2 (i + 1) (by omega)]
      · rw [if_neg j2, g2 j hj]
  unfold mX0_even mX0_even_8
  rw [show nI a * 30 = nI (30 * a) by rw [show (30 : Int32) = nI 30 from rfl, pk_mul, Nat.mul_comm], zbn_e]
  refine zlp_R (R := fun (Y : Option (Unit × zWd)) => ∃ w', Y = some ((), w') ∧ (∀ x, x ≠ v0 + 1 → x ≠ v0 + 9 → w' x = w x) ∧ ∀ j, w' (v0 + 1) j = if 30 * a ≤ j ∧ j < 30 * a + 30 then w (v0 + 1) j + yMv (w (v0 + 1)) p (30 * a) 30 (j - 30 * a) else w (v0 + 1) j)
    (P := fun (i : Nat) (q : Int32 × zWd) => ∃ u', q = (nI i, u') ∧ (∀ x, x ≠ v0 + 9 → u' x = w x) ∧ ∀ j, j < i → u' (v0 + 9) j = 0) (n := 30) (by unfold zFU; omega) ?_ ⟨w, rfl, fun _ _ => rfl, fun j hj => absurd hj (by omega)⟩
  rintro i hi q ⟨u1, rfl, g1, g2⟩ k hk
  simp only [mX0_even_8b]
  by_cases e : i = 30
  · subst e
    rw [if_pos (by decide)]
    exact l2 u1 g2 g1
  · rw [if_neg (show ¬ (30 : Int32) ≤ nI i from nI_ge (b := 30) (by omega) (by decide)), zgd_t (show zin (nI i) 30 from vp_in_nI (by omega) (by decide)), zbn_e, ← nI_succ, nI_clamp (show i < 2 ^ 31 by omega)]
    refine hk (by omega) _ ⟨_, rfl, fun x hx => by rw [zpE _ _ _ hx]; exact g1 x hx, fun j hj => ?_⟩
    by_cases ej : j = i
    · rw [ej, zu3]
    · rw [zu2 _ _ ej]; exact g2 j (by omega)
