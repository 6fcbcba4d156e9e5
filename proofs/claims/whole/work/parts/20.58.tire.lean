theorem ySc_hi {kd tn sh : Nat → Int32} {cl : Nat → Nat} {T : Nat} {C : Nat → Int32} (hP : yTp kd tn cl T) {j : Nat} (hj : 60 ≤ j) : ∀ i, ySc kd tn sh cl T C i j = C j
  | 0 => rfl
  | i + 1 => by
    show yDy kd tn sh cl T (ySc kd tn sh cl T C i) j = C j
    rw [yDy_hi hP hj]; exact ySc_hi hP hj i
theorem s_keeps (u : zWd) : ∃ u', mX12_keeps 231 u = some ((), u') ∧ (∀ a, a ≠ 248 → a ≠ 249 → u' a = u a) ∧ (∀ j, j < 60 → u' 248 j = u 232 (20 + j)) ∧ ∀ t, t < 12 → u' 249 t = u 232 (224 + t) := by
  unfold mX12_keeps mX12_keeps_2
  refine zlp_R (R := fun (Y : Option (Unit × zWd)) => ∃ u', Y = some ((), u') ∧ (∀ a, a ≠ 248 → a ≠ 249 → u' a = u a) ∧ (∀ j, j < 60 → u' 248 j = u 232 (20 + j)) ∧ ∀ t, t < 12 → u' 249 t = u 232 (224 + t))
    (P := fun (i : Nat) (q : Int32 × zWd) => ∃ u', q = (nI i, u') ∧ (∀ a, a ≠ 248 → u' a = u a) ∧ ∀ j, j < i → u' 248 j = u 232 (20 + j)) (n := 60) (by unfold zFU; omega) ?_ ⟨u, rfl, fun _ _ => rfl, fun j hj => absurd hj (by omega)⟩
  rintro i hi q ⟨u1, rfl, g1, g2⟩ k hk
  simp only [mX12_keeps_2b]
  have e232 := g1 232 (by decide)
  by_cases e : i = 60
  · subst e
    rw [if_pos (by decide)]
    unfold mX12_keeps_31
    refine zlp_R (R := fun (Y : Option (Unit × zWd)) => ∃ u', Y = some ((), u') ∧ (∀ a, a ≠ 248 → a ≠ 249 → u' a = u a) ∧ (∀ j, j < 60 → u' 248 j = u 232 (20 + j)) ∧ ∀ t, t < 12 → u' 249 t = u 232 (224 + t))
      (P := fun (i : Nat) (q : Int32 × zWd) => ∃ u', q = (nI i, u') ∧ (∀ a, a ≠ 249 → u' a = u1 a) ∧ ∀ j, j < i → u' 249 j = u 232 (224 + j)) (n := 12) (by unfold zFU; omega) ?_ ⟨u1, rfl, fun _ _ => rfl, fun j hj => absurd hj (by omega)⟩
    rintro i hi q ⟨u2, rfl, p1, p2⟩ k hk
    simp only [mX12_keeps_31b]
    have f232 := (p1 232 (by decide)).trans e232
    by_cases e : i = 12
    · subst e
      rw [if_pos (by decide)]
      exact ⟨u2, rfl, fun a h1 h2 => by rw [p1 a h2]; exact g1 a h1, fun j hj => by rw [p1 248 (by decide)]; exact g2 j hj, p2⟩
    · have hk' := hk (by omega) (nI (i + 1), zup u2 249 i (u 232 (224 + i))) ⟨_, rfl, fun a ha => by rw [zpE _ _ _ ha]; exact p1 a ha, fun j hj => ?_⟩
      · simp (disch := (first | omega | (simp (disch := omega) only [zu1, zu2, zu3, nIi, f232]; omega))) only [if_true, if_false, zE10, zE00, zOkN, Nat.reduceAdd, Nat.reduceMul, zcl_s, zif01, zbn_e, nIi, nI_clamp, nI_add, nI_1, pk_mul, zgi, zlt, zle, Int32.zero_add, Int32.add_zero, C0, C1, G0, G1, Nat.zero_add, Nat.add_zero, l2, l3, l4, l5, l6, l7, l8, l10, l11, l12, l20, l30, l48, l50, l60, l100, l120, l140, l152, l164, l176, l188, l200, l212, l224, l1604, l1880, l2000, l2008, l2016, l2024, l2032, l2040, l2048, l2210, l2240, l2270, l2300, l2330, l2390, l2450, l2510, l2570, l2590, l2620, l2650, l2660, l2700, T0, T1, Tm1, Tm99, Tm999, p_within, p_in, p_isCell, p_isOwner, p_isDay11, p_isDay12, p_isTap11, p_isTaker11, if_pos, if_neg, p_isTap12, p_isTaker12, p_isGone, zu1, zu2, zu3, nIe, Nat.reduceSub, f232]
        exact hk'
      · by_cases c : j = i
        · rw [c, zu3]
        · rw [zu2 _ _ c]; exact p2 j (by omega)
  · have hk' := hk (by omega) (nI (i + 1), zup u1 248 i (u 232 (20 + i))) ⟨_, rfl, fun a ha => by rw [zpE _ _ _ ha]; exact g1 a ha, fun j hj => ?_⟩
    · simp (disch := (first | omega | (simp (disch := omega) only [zu1, zu2, zu3, nIi, e232]; omega))) only [if_true, if_false, zE10, zE00, zOkN, Nat.reduceAdd, Nat.reduceMul, zcl_s, zif01, zbn_e, nIi, nI_clamp, nI_add, nI_1, pk_mul, zgi, zlt, zle, Int32.zero_add, Int32.add_zero, C0, C1, G0, G1, Nat.zero_add, Nat.add_zero, l2, l3, l4, l5, l6, l7, l8, l10, l11, l12, l20, l30, l48, l50, l60, l100, l120, l140, l152, l164, l176, l188, l200, l212, l224, l1604, l1880, l2000, l2008, l2016, l2024, l2032, l2040, l2048, l2210, l2240, l2270, l2300, l2330, l2390, l2450, l2510, l2570, l2590, l2620, l2650, l2660, l2700, T0, T1, Tm1, Tm99, Tm999, p_within, p_in, p_isCell, p_isOwner, p_isDay11, p_isDay12, p_isTap11, p_isTaker11, if_pos, if_neg, p_isTap12, p_isTaker12, p_isGone, zu1, zu2, zu3, nIe, Nat.reduceSub, e232]
      exact hk'
    · by_cases c : j = i
      · rw [c, zu3]
      · rw [zu2 _ _ c]; exact g2 j (by omega)
theorem s_back (u : zWd) : ∃ u', mX12_givesBack 231 u = some ((), u') ∧ (∀ a, a ≠ 232 → u' a = u a) ∧ (∀ j, j < 60 → u' 232 (20 + j) = u 248 j) ∧ (∀ t, t < 12 → u' 232 (224 + t) = u 249 t) ∧ ∀ j, j < 20 ∨ 80 ≤ j → j < 224 ∨ 236 ≤ j → u' 232 j = u 232 j := by
  unfold mX12_givesBack mX12_givesBack_2
  refine zlp_R (R := fun (Y : Option (Unit × zWd)) => ∃ u', Y = some ((), u') ∧ (∀ a, a ≠ 232 → u' a = u a) ∧ (∀ j, j < 60 → u' 232 (20 + j) = u 248 j) ∧ (∀ t, t < 12 → u' 232 (224 + t) = u 249 t) ∧ ∀ j, j < 20 ∨ 80 ≤ j → j < 224 ∨ 236 ≤ j → u' 232 j = u 232 j)
    (P := fun (i : Nat) (q : Int32 × zWd) => ∃ u', q = (nI i, u') ∧ (∀ a, a ≠ 232 → u' a = u a) ∧ (∀ j, j < i → u' 232 (20 + j) = u 248 j) ∧ ∀ j, j < 20 ∨ 20 + i ≤ j → u' 232 j = u 232 j) (n := 60) (by unfold zFU; omega) ?_ ⟨u, rfl, fun _ _ => rfl, fun j hj => absurd hj (by omega), fun _ _ => rfl⟩
  rintro i hi q ⟨u1, rfl, g1, g2, g3⟩ k hk
  simp only [mX12_givesBack_2b]
  have e248 := g1 248 (by decide)
  by_cases e : i = 60
  · subst e
    rw [if_pos (by decide)]
    unfold mX12_givesBack_31
    refine zlp_R (R := fun (Y : Option (Unit × zWd)) => ∃ u', Y = some ((), u') ∧ (∀ a, a ≠ 232 → u' a = u a) ∧ (∀ j, j < 60 → u' 232 (20 + j) = u 248 j) ∧ (∀ t, t < 12 → u' 232 (224 + t) = u 249 t) ∧ ∀ j, j < 20 ∨ 80 ≤ j → j < 224 ∨ 236 ≤ j → u' 232 j = u 232 j)
      (P := fun (i : Nat) (q : Int32 × zWd) => ∃ u', q = (nI i, u') ∧ (∀ a, a ≠ 232 → u' a = u1 a) ∧ (∀ t, t < i → u' 232 (224 + t) = u 249 t) ∧ ∀ j, j < 224 ∨ 224 + i ≤ j → u' 232 j = u1 232 j) (n := 12) (by unfold zFU; omega) ?_ ⟨u1, rfl, fun _ _ => rfl, fun j hj => absurd hj (by omega), fun _ _ => rfl⟩
    rintro i hi q ⟨u2, rfl, p1, p2, p3⟩ k hk
    simp only [mX12_givesBack_31b]
    have f249 := (p1 249 (by decide)).trans (g1 249 (by decide))
    by_cases e : i = 12
    · subst e
      rw [if_pos (by decide)]
      exact ⟨u2, rfl, fun a h1 => by rw [p1 a h1]; exact g1 a h1, fun j hj => by rw [p3 _ (by omega)]; exact g2 j hj, p2, fun j h1 h2 => by rw [p3 j (by omega)]; exact g3 j (by omega)⟩
    · have hk' := hk (by omega) (nI (i + 1), zup u2 232 (224 + i) (u 249 i)) ⟨_, rfl, fun a ha => by rw [zpE _ _ _ ha]; exact p1 a ha, fun j hj => ?_, fun j hj => by rw [zu2 _ _ (by omega)]; exact p3 j (by omega)⟩
      · simp (disch := (first | omega | (simp (disch := omega) only [zu1, zu2, zu3, nIi, f249]; omega))) only [if_true, if_false, zE10, zE00, zOkN, Nat.reduceAdd, Nat.reduceMul, zcl_s, zif01, zbn_e, nIi, nI_clamp, nI_add, nI_1, pk_mul, zgi, zlt, zle, Int32.zero_add, Int32.add_zero, C0, C1, G0, G1, Nat.zero_add, Nat.add_zero, l2, l3, l4, l5, l6, l7, l8, l10, l11, l12, l20, l30, l48, l50, l60, l100, l120, l140, l152, l164, l176, l188, l200, l212, l224, l1604, l1880, l2000, l2008, l2016, l2024, l2032, l2040, l2048, l2210, l2240, l2270, l2300, l2330, l2390, l2450, l2510, l2570, l2590, l2620, l2650, l2660, l2700, T0, T1, Tm1, Tm99, Tm999, p_within, p_in, p_isCell, p_isOwner, p_isDay11, p_isDay12, p_isTap11, p_isTaker11, if_pos, if_neg, p_isTap12, p_isTaker12, p_isGone, zu1, zu2, zu3, nIe, Nat.reduceSub, f249]
        exact hk'
      · by_cases c : j = i
        · rw [c, zu3]
        · rw [zu2 _ _ (by omega)]; exact p2 j (by omega)
  · have hk' := hk (by omega) (nI (i + 1), zup u1 232 (20 + i) (u 248 i)) ⟨_, rfl, fun a ha => by rw [zpE _ _ _ ha]; exact g1 a ha, fun j hj => ?_, fun j hj => by rw [zu2 _ _ (by omega)]; exact g3 j (by omega)⟩
    · simp (disch := (first | omega | (simp (disch := omega) only [zu1, zu2, zu3, nIi, e248]; omega))) only [if_true, if_false, zE10, zE00, zOkN, Nat.reduceAdd, Nat.reduceMul, zcl_s, zif01, zbn_e, nIi, nI_clamp, nI_add, nI_1, pk_mul, zgi, zlt, zle, Int32.zero_add, Int32.add_zero, C0, C1, G0, G1, Nat.zero_add, Nat.add_zero, l2, l3, l4, l5, l6, l7, l8, l10, l11, l12, l20, l30, l48, l50, l60, l100, l120, l140, l152, l164, l176, l188, l200, l212, l224, l1604, l1880, l2000, l2008, l2016, l2024, l2032, l2040, l2048, l2210, l2240, l2270, l2300, l2330, l2390, l2450, l2510, l2570, l2590, l2620, l2650, l2660, l2700, T0, T1, Tm1, Tm99, Tm999, p_within, p_in, p_isCell, p_isOwner, p_isDay11, p_isDay12, p_isTap11, p_isTaker11, if_pos, if_neg, p_isTap12, p_isTaker12, p_isGone, zu1, zu2, zu3, nIe, Nat.reduceSub, e248]
      exact hk'
    · by_cases c : j = i
      · rw [c, zu3]
      · rw [zu2 _ _ (by omega)]; exact g2 j (by omega)
/-- the trial ground is the World's -/
theorem s_copy0 (w : zWd) : ∃ w', mX0_copyFrom 206 2 w = some ((), w') ∧ (∀ a, a < 206 ∨ 214 ≤ a → w' a = w a) ∧ w' 206 1 = w 2 1 ∧ w' 206 2 = w 2 2 ∧ (∀ j, j < 120 → w' 207 j = w 3 j) ∧ ∀ j, j < 12 → w' 208 j = w 4 j ∧ w' 209 j = w 5 j ∧ w' 210 j = w 6 j ∧ w' 211 j = w 7 j ∧ w' 212 j = w 8 j ∧ w' 213 j = w 9 j := by
  have cpy : ∀ (u : zWd) (k1 k2 n j : Nat), j < n → zcp u k1 0 k2 0 n k2 j = u k1 j := fun u k1 k2 n j hj => by
    rw [zcp_self]
    unfold va_cpy
    rw [if_pos (by omega)]
    congr 1; omega
  refine ⟨zcp (zcp (zcp (zcp (zcp (zcp (zup (zup (zcp w 3 0 207 0 120) 206 1 (zcp w 3 0 207 0 120 2 1)) 206 2 (zup (zcp w 3 0 207 0 120) 206 1 (zcp w 3 0 207 0 120 2 1) 2 2)) 4 0 208 0 12) 5 0 209 0 12) 6 0 210 0 12) 7 0 211 0 12) 8 0 212 0 12) 9 0 213 0 12, by unfold mX0_copyFrom; simp only [zbn_e, C0, zk12, cl12, zk120, cl120, Nat.reduceAdd], fun a ha => ?_, ?_, ?_, fun j hj => ?_, fun j hj => ⟨?_, ?_, ?_, ?_, ?_, ?_⟩⟩
  · rw [zcp_ne _ _ _ _ _ _ _ (by omega), zcp_ne _ _ _ _ _ _ _ (by omega), zcp_ne _ _ _ _ _ _ _ (by omega), zcp_ne _ _ _ _ _ _ _ (by omega), zcp_ne _ _ _ _ _ _ _ (by omega), zcp_ne _ _ _ _ _ _ _ (by omega), zpE _ _ _ (by omega), zpE _ _ _ (by omega), zcp_ne _ _ _ _ _ _ _ (by omega)]
  · rw [zcp_ne _ _ _ _ _ _ _ (by omega), zcp_ne _ _ _ _ _ _ _ (by omega), zcp_ne _ _ _ _ _ _ _ (by omega), zcp_ne _ _ _ _ _ _ _ (by omega), zcp_ne _ _ _ _ _ _ _ (by omega), zcp_ne _ _ _ _ _ _ _ (by omega), zu2 _ _ (by omega), zu3, zcp_ne _ _ _ _ _ _ _ (by omega)]
  · rw [zcp_ne _ _ _ _ _ _ _ (by omega), zcp_ne _ _ _ _ _ _ _ (by omega), zcp_ne _ _ _ _ _ _ _ (by omega), zcp_ne _ _ _ _ _ _ _ (by omega), zcp_ne _ _ _ _ _ _ _ (by omega), zcp_ne _ _ _ _ _ _ _ (by omega), zu3, zpE _ _ _ (by omega), zcp_ne _ _ _ _ _ _ _ (by omega)]
  · rw [zcp_ne _ _ _ _ _ _ _ (by omega), zcp_ne _ _ _ _ _ _ _ (by omega), zcp_ne _ _ _ _ _ _ _ (by omega), zcp_ne _ _ _ _ _ _ _ (by omega), zcp_ne _ _ _ _ _ _ _ (by omega), zcp_ne _ _ _ _ _ _ _ (by omega), zpE _ _ _ (by omega), zpE _ _ _ (by omega)]
    exact cpy _ _ _ _ _ hj
  · rw [zcp_ne _ _ _ _ _ _ 208 (by omega), zcp_ne _ _ _ _ _ _ 208 (by omega), zcp_ne _ _ _ _ _ _ 208 (by omega), zcp_ne _ _ _ _ _ _ 208 (by omega), zcp_ne _ _ _ _ _ _ 208 (by omega), cpy _ _ _ _ _ hj, zpE _ _ _ (by omega), zpE _ _ _ (by omega), zcp_ne _ _ _ _ _ _ _ (by omega)]
  · rw [zcp_ne _ _ _ _ _ _ 209 (by omega), zcp_ne _ _ _ _ _ _ 209 (by omega), zcp_ne _ _ _ _ _ _ 209 (by omega), zcp_ne _ _ _ _ _ _ 209 (by omega), cpy _ _ _ _ _ hj, zcp_ne _ _ _ _ _ _ 5 (by omega), zpE _ _ _ (by omega), zpE _ _ _ (by omega), zcp_ne _ _ _ _ _ _ _ (by omega)]
  · rw [zcp_ne _ _ _ _ _ _ 210 (by omega), zcp_ne _ _ _ _ _ _ 210 (by omega), zcp_ne _ _ _ _ _ _ 210 (by omega), cpy _ _ _ _ _ hj, zcp_ne _ _ _ _ _ _ 6 (by omega), zcp_ne _ _ _ _ _ _ 6 (by omega), zpE _ _ _ (by omega), zpE _ _ _ (by omega), zcp_ne _ _ _ _ _ _ _ (by omega)]
  · rw [zcp_ne _ _ _ _ _ _ 211 (by omega), zcp_ne _ _ _ _ _ _ 211 (by omega), cpy _ _ _ _ _ hj, zcp_ne _ _ _ _ _ _ 7 (by omega), zcp_ne _ _ _ _ _ _ 7 (by omega), zcp_ne _ _ _ _ _ _ 7 (by omega), zpE _ _ _ (by omega), zpE _ _ _ (by omega), zcp_ne _ _ _ _ _ _ _ (by omega)]
  · rw [zcp_ne _ _ _ _ _ _ 212 (by omega), cpy _ _ _ _ _ hj, zcp_ne _ _ _ _ _ _ 8 (by omega), zcp_ne _ _ _ _ _ _ 8 (by omega), zcp_ne _ _ _ _ _ _ 8 (by omega), zcp_ne _ _ _ _ _ _ 8 (by omega), zpE _ _ _ (by omega), zpE _ _ _ (by omega), zcp_ne _ _ _ _ _ _ _ (by omega)]
  · rw [cpy _ _ _ _ _ hj, zcp_ne _ _ _ _ _ _ 9 (by omega), zcp_ne _ _ _ _ _ _ 9 (by omega), zcp_ne _ _ _ _ _ _ 9 (by omega), zcp_ne _ _ _ _ _ _ 9 (by omega), zcp_ne _ _ _ _ _ _ 9 (by omega), zpE _ _ _ (by omega), zpE _ _ _ (by omega), zcp_ne _ _ _ _ _ _ _ (by omega)]
theorem yRg_c {C C' : Nat → Int32} (h : yRg C) (g : ∀ j, j < 120 → C' j = C j) : yRg C' := fun j hj => by
  rw [g j (by omega), g (30 + j) (by omega), g (60 + j) (by omega), g (90 + j) (by omega)]; exact h j hj
/-- the class: the first day on which F is less -/
theorem s_tire11 {w wt : zWd} {D T a : Nat} {cl : Nat → Nat} {m : Int32} (hT : T ≤ 12) (ha : a < T) (hD : D ≤ 400) (d1 : w 1 0 = nI D) (hm : 1 ≤ m.toInt ∧ m.toInt ≤ 9999) (hP : yTp (w 4) (w 6) cl T) (hR : yRg (wt 207)) (k1 : ∀ t, t < T → w 5 t = nI (cl t)) (t0 : ∀ a, a < 206 ∨ 214 ≤ a → wt a = w a) (t1 : wt 206 1 = nI T) (t2 : wt 206 2 = w 2 2) (t3 : ∀ j, j < 12 → wt 208 j = w 4 j ∧ wt 209 j = w 5 j ∧ wt 210 j = w 6 j) (ans : Int32) (hA : (∃ r, r < 60 ∧ D + r < 400 ∧ (ySf (w 4) (w 6) (qBit (w 2 2)) cl T (wt 207) (wt 213) (wt 212) r a 2).toInt < m.toInt ∧ (∀ j, j < r → ¬ (ySf (w 4) (w 6) (qBit (w 2 2)) cl T (wt 207) (wt 213) (wt 212) j a 2).toInt < m.toInt) ∧ ans = nI (D + r)) ∨ ((∀ j, j < 60 → D + j < 400 → ¬ (ySf (w 4) (w 6) (qBit (w 2 2)) cl T (wt 207) (wt 213) (wt 212) j a 2).toInt < m.toInt) ∧ ans = -5)) : ∃ u, mX11_tire_41 0 (nI a) m 0 wt = some (ans, u) ∧ ∀ x, x < 206 ∨ 216 ≤ x → u x = w x := by
  unfold mX11_tire_41
  refine zlp_R (R := fun (Y : Option (Int32 × zWd)) => ∃ u, Y = some (ans, u) ∧ ∀ x, x < 206 ∨ 216 ≤ x → u x = w x)
    (P := fun (i : Nat) (q : Int32 × zWd) => ∃ u, q = (nI i, u) ∧ (∀ x, x ≠ 207 → x ≠ 213 → x ≠ 214 → x ≠ 215 → u x = wt x) ∧ u 207 = ySc (w 4) (w 6) (qBit (w 2 2)) cl T (wt 207) i ∧ u 213 = ySs (w 4) (w 6) (qBit (w 2 2)) cl T (wt 207) (wt 213) i ∧ ∀ j, j < i → ¬ (ySf (w 4) (w 6) (qBit (w 2 2)) cl T (wt 207) (wt 213) (wt 212) j a 2).toInt < m.toInt) (n := 60) (by unfold zFU; omega) ?_ ⟨wt, rfl, fun _ _ _ _ _ => rfl, rfl, rfl, fun j hj => absurd hj (by omega)⟩
  rintro i hi q ⟨u, rfl, g1, g2, g3, g4⟩ k hk
  simp only [mX11_tire_41b, mX11_tire_102]
  have u1 : u 1 0 = nI D := by rw [g1 1 (by decide) (by decide) (by decide) (by decide), t0 1 (by omega)]; exact d1
  have none : (i = 60 ∨ 400 ≤ D + i) → ans = -5 := fun c => by
    rcases hA with ⟨r, r1, r2, r3, _, _⟩ | h
    · exact absurd r3 (g4 r (by omega))
    · exact h.2
  have lo : ∀ x, x < 206 ∨ 216 ≤ x → u x = w x := fun x hx => by rw [g1 x (by omega) (by omega) (by omega) (by omega)]; exact t0 x (by omega)
  by_cases e : i = 60
  · rw [none (Or.inl e), e, if_pos (by decide)]
    exact ⟨u, rfl, lo⟩
  rw [if_neg (show ¬ (60 : Int32) ≤ nI i from nI_ge (b := 60) (by omega) (by decide))]
  by_cases c4 : 400 ≤ D + i
  · rw [none (Or.inr c4)]
    rw [if_pos (show (400 : Int32) ≤ u 1 0 + nI i by rw [u1, nI_add]; exact nI_le (a := 400) c4 (by omega))]
    exact ⟨u, rfl, lo⟩
  rw [if_neg (show ¬ (400 : Int32) ≤ u 1 0 + nI i by rw [u1, nI_add]; exact nI_ge (b := 400) (by omega) (by decide))]
  obtain ⟨u2, m1, m2, m3, m4, m5⟩ := s_days11 (v0 := 206) (w := wt) (kd := w 4) (tn := w 6) (sh := qBit (w 2 2)) (cl := cl) hT hP hR t1 (fun t ht => (t3 t (by omega)).1) (fun t ht => by rw [(t3 t (by omega)).2.1]; exact k1 t ht) (fun t ht => (t3 t (by omega)).2.2) (fun t ht => by rw [t2]) (u := u) (i := i) (fun x h1 h2 h3 => g1 x (by omega) (by omega) (by omega) (by omega)) g2 g3
  simp only [Nat.reduceAdd] at m1 m2 m3 m4 m5
  have u2lo : ∀ x, x < 206 ∨ 216 ≤ x → u2 x = w x := fun x hx => by rw [m2 x (by omega) (by omega) (by omega) (by omega)]; exact lo x hx
  have u21 : u2 1 0 = nI D := by rw [m2 1 (by decide) (by decide) (by decide) (by decide)]; exact u1
  have f := m5 a 2 ha (by omega)
  simp only [Nat.reduceAdd]
  have ia : nI a * 4 + 2 = nI (4 * a + 2) := by rw [show (4 : Int32) = nI 4 from rfl, pk_mul, Nat.mul_comm]; exact nI_add _ 2
  rw [m1, zcl_s, ia, zgd_t (show zin (nI (4 * a + 2)) 48 from vp_in_nI (by omega) (by decide)), nI_clamp (show 4 * a + 2 < 2 ^ 31 by omega), f, u21, ← nI_succ, nI_add]
  by_cases c : (ySf (w 4) (w 6) (qBit (w 2 2)) cl T (wt 207) (wt 213) (wt 212) i a 2).toInt < m.toInt
  · rw [if_neg (by rw [zle]; omega)]
    refine ⟨u2, ?_, u2lo⟩
    rcases hA with ⟨r, r1, r2, r3, r4, r5⟩ | h
    · have : r = i := by
        by_cases x1 : r < i
        · exact absurd r3 (g4 r x1)
        · by_cases x2 : i < r
          · exact absurd c (r4 i x2)
          · omega
      rw [r5, this]
    · exact absurd c (h.1 i (by omega) (by omega))
  · rw [if_pos (by rw [zle]; omega)]
    refine hk (by omega) _ ⟨u2, rfl, fun x h1 h2 h3 h4 => by rw [m2 x h1 h2 h3 h4]; exact g1 x h1 h2 h3 h4, m3, m4, fun j hj => ?_⟩
    by_cases ej : j = i
    · rw [ej]; exact c
    · exact g4 j (by omega)
/-- the model's -/
theorem s_tire12 {w u0 : zWd} {D T a : Nat} {cl : Nat → Nat} {m : Int32} {C S ln : Nat → Int32} (hT : T ≤ 12) (ha : a < T) (hD : D ≤ 400) (hm : 1 ≤ m.toInt ∧ m.toInt ≤ 9999) (hP : yTp (w 4) (w 6) cl T) (hR : yRg C) (k1 : ∀ t, t < T → w 5 t = nI (cl t)) (hsh : ∀ t, t < T → qBit (w 2 2) t = 0 ∨ qBit (w 2 2) t = 1) (d2 : w 232 0 = nI D) (e2 : w 232 1 = nI T) (h3 : ∀ j, j < 120 → w 232 (20 + j) = C j) (hk : ∀ t, t < T → w 232 (140 + t) = w 4 t ∧ w 232 (152 + t) = w 5 t ∧ w 232 (164 + t) = w 6 t ∧ w 232 (188 + t) = qBit (w 2 2) t) (h8 : ∀ t, t < T → w 232 (212 + t) = ln t ∧ w 232 (224 + t) = S t) (u232 : u0 232 = w 232) (u248 : ∀ j, j < 60 → u0 248 j = w 232 (20 + j)) (u249 : ∀ t, t < 12 → u0 249 t = w 232 (224 + t)) (ans : Int32) (hA : (∃ r, r < 60 ∧ D + r < 400 ∧ (ySf (w 4) (w 6) (qBit (w 2 2)) cl T C S ln r a 2).toInt < m.toInt ∧ (∀ j, j < r → ¬ (ySf (w 4) (w 6) (qBit (w 2 2)) cl T C S ln j a 2).toInt < m.toInt) ∧ ans = nI (D + r)) ∨ ((∀ j, j < 60 → D + j < 400 → ¬ (ySf (w 4) (w 6) (qBit (w 2 2)) cl T C S ln j a 2).toInt < m.toInt) ∧ ans = -5)) : ∃ u, mX12_tire_39 231 (nI a) m (-5) (nI D) u0 = some (ans, u) ∧ (∀ x, x ≠ 232 → x < 234 ∨ 239 < x → u x = u0 x) ∧ u 232 = w 232 := by
  have done : ∀ (u : zWd) (i : Nat) (v : Int32), (∀ x, x ≠ 232 → x < 234 ∨ 239 < x → u x = u0 x) → (∀ j, j < 20 ∨ 140 ≤ j → j < 224 ∨ 224 + T ≤ j → u 232 j = w 232 j) → (∀ j, j < 120 → u 232 (20 + j) = ySc (w 4) (w 6) (qBit (w 2 2)) cl T C i j) → v = ans → ∃ u', mX12_tire_95 231 v u = some (ans, u') ∧ (∀ x, x ≠ 232 → x < 234 ∨ 239 < x → u' x = u0 x) ∧ u' 232 = w 232 := by
    intro u i v p1 p2 p3 hv
    obtain ⟨u', b1, b2, b3, b4, b5⟩ := s_back u
    refine ⟨u', ?_, fun x h1 h2 => by rw [b2 x h1]; exact p1 x h1 h2, funext (fun j => ?_)⟩
    · unfold mX12_tire_95
      rw [b1, zcl_s, hv]
    · by_cases c1 : 20 ≤ j ∧ j < 80
      · have := b3 (j - 20) (by omega)
        rw [show 20 + (j - 20) = j by omega, p1 248 (by decide) (by decide), u248 _ (by omega), show 20 + (j - 20) = j by omega] at this
        exact this
      by_cases c2 : 224 ≤ j ∧ j < 236
      · have := b4 (j - 224) (by omega)
        rw [show 224 + (j - 224) = j by omega, p1 249 (by decide) (by decide), u249 _ (by omega), show 224 + (j - 224) = j by omega] at this
        exact this
      rw [b5 j (by omega) (by omega)]
      by_cases c3 : 80 ≤ j ∧ j < 140
      · have := p3 (j - 20) (by omega)
        rw [show 20 + (j - 20) = j by omega, ySc_hi hP (by omega)] at this
        rw [this, ← h3 _ (by omega), show 20 + (j - 20) = j by omega]
      · exact p2 j (by omega) (by omega)
  have n5 : ∀ r, r < 1000 → ¬ (nI r : Int32) = -5 := fun B hB q => absurd (congrArg Int32.toInt q) (by rw [nIi (by omega), show (-5 : Int32).toInt = -5 by decide]; omega)
  unfold mX12_tire_39
  refine zlp_R (R := fun (Y : Option (Int32 × zWd)) => ∃ u, Y = some (ans, u) ∧ (∀ x, x ≠ 232 → x < 234 ∨ 239 < x → u x = u0 x) ∧ u 232 = w 232)
    (P := fun (i : Nat) (q : Int32 × Int32 × zWd) => ∃ (u : zWd) (v : Int32), q = (v, nI (D + i), u) ∧ (∀ x, x ≠ 232 → x < 234 ∨ 239 < x → u x = u0 x) ∧ (∀ j, j < 20 ∨ 140 ≤ j → j < 224 ∨ 224 + T ≤ j → u 232 j = w 232 j) ∧ (∀ j, j < 120 → u 232 (20 + j) = ySc (w 4) (w 6) (qBit (w 2 2)) cl T C i j) ∧ (∀ t, t < T → u 232 (224 + t) = ySs (w 4) (w 6) (qBit (w 2 2)) cl T C S i t) ∧ ((v = -5 ∧ i ≤ 60 ∧ D + i ≤ 400 ∧ ∀ j, j < i → ¬ (ySf (w 4) (w 6) (qBit (w 2 2)) cl T C S ln j a 2).toInt < m.toInt) ∨ (∃ r, r < 1000 ∧ v = nI r ∧ v = ans))) (n := 61) (by unfold zFU; omega) ?_ ⟨u0, -5, rfl, fun _ _ _ => rfl, fun j _ _ => by rw [u232], fun j hj => by rw [u232]; exact h3 j hj, fun t ht => by rw [u232]; exact (h8 t ht).2, Or.inl ⟨rfl, by omega, by omega, fun j hj => absurd hj (by omega)⟩⟩
  rintro i hi q ⟨u, v, rfl, g1, g2, g3, g4, g5⟩ k hkk
  simp only [mX12_tire_39b, mX12_tire_88]
  have u0D : u 232 0 = nI D := by rw [g2 0 (by omega) (by omega)]; exact d2
  rcases g5 with ⟨rfl, q1, q2, q3⟩ | ⟨r, r1, r2, r3⟩
  rotate_left
  · have hd := done u i v g1 g2 g3 r3
    by_cases c1 : 400 ≤ D + i
    · rw [if_pos (show (400 : Int32) ≤ nI (D + i) from nI_le (a := 400) c1 (by omega))]; exact hd
    rw [if_neg (show ¬ (400 : Int32) ≤ nI (D + i) from nI_ge (b := 400) (by omega) (by decide)), G0 (show 0 < 21948 by decide)]
    simp only [Nat.reduceAdd, C0]
    rw [u0D, show nI D + 60 = nI (D + 60) from nI_add D 60]
    by_cases c2 : D + 60 ≤ D + i
    · rw [if_pos (nI_le c2 (by omega))]; exact hd
    · rw [if_neg (nI_ge (by omega) (by omega)), if_neg (by rw [r2]; exact n5 r r1)]; exact hd
  have none : (i = 60 ∨ 400 ≤ D + i) → -5 = ans := fun c => by
    rcases hA with ⟨r, r1, r2, r3, _, _⟩ | h
    · exact absurd r3 (q3 r (by omega))
    · exact h.2.symm
  by_cases c1 : 400 ≤ D + i
  · rw [if_pos (show (400 : Int32) ≤ nI (D + i) from nI_le (a := 400) c1 (by omega))]
    exact done u i (-5) g1 g2 g3 (none (Or.inr c1))
  rw [if_neg (show ¬ (400 : Int32) ≤ nI (D + i) from nI_ge (b := 400) (by omega) (by decide)), G0 (show 0 < 21948 by decide)]
  simp only [Nat.reduceAdd, C0]
  rw [u0D, show nI D + 60 = nI (D + 60) from nI_add D 60]
  by_cases c2 : D + 60 ≤ D + i
  · rw [if_pos (nI_le c2 (by omega))]
    exact done u i (-5) g1 g2 g3 (none (Or.inl (by omega)))
  rw [if_neg (nI_ge (by omega) (by omega))]
  simp only [if_true]
  obtain ⟨u2, m1, m2, m3, m4, m5, m6⟩ := s_days12 (w := w) (C := C) (S := S) (ln := ln) (kd := w 4) (tn := w 6) (sh := qBit (w 2 2)) (cl := cl) hT hP hR e2 (fun t ht => (hk t ht).1) (fun t ht => by rw [(hk t ht).2.1]; exact k1 t ht) (fun t ht => (hk t ht).2.2.1) (fun t ht => (hk t ht).2.2.2) (fun t ht => (h8 t ht).1) hsh (u := u) (i := i) (fun j h1 h2 h3 => g2 j h1 (by omega)) g3 g4
  have f := m6 a 2 ha (by omega)
  simp only [Nat.reduceAdd] at f
  rw [m1, zcl_s, zgd_t (show zin (nI a) 12 from vp_in_nI (by omega) (by decide)), nI_clamp (show a < 2 ^ 31 by omega), f, ← nI_succ]
  by_cases c : (ySf (w 4) (w 6) (qBit (w 2 2)) cl T C S ln i a 2).toInt < m.toInt
  · rw [if_neg (by rw [zle]; omega)]
    refine hkk (by omega) _ ⟨u2, nI (D + i), rfl, fun x h1 h2 => by rw [m2 x h1 h2]; exact g1 x h1 h2, fun j h1 h2 => by rw [m3 j h1 h2]; exact g2 j h1 h2, m4, m5, Or.inr ⟨D + i, by omega, rfl, ?_⟩⟩
    rcases hA with ⟨r, r1, r2, r3, r4, r5⟩ | h
    · have : r = i := by
        by_cases x1 : r < i
        · exact absurd r3 (q3 r x1)
        · by_cases x2 : i < r
          · exact absurd c (r4 i x2)
          · omega
      rw [r5, this]
    · exact absurd c (h.1 i (by omega) (by omega))
  · rw [if_pos (by rw [zle]; omega)]
    refine hkk (by omega) _ ⟨u2, -5, rfl, fun x h1 h2 => by rw [m2 x h1 h2]; exact g1 x h1 h2, fun j h1 h2 => by rw [m3 j h1 h2]; exact g2 j h1 h2, m4, m5, Or.inl ⟨rfl, by omega, by omega, fun j hj => ?_⟩⟩
    by_cases ej : j = i
    · rw [ej]; exact c
    · exact q3 j (by omega)
theorem qJ.lo2 {w u : zWd} (h : ∀ x, x < 206 ∨ 216 ≤ x → u x = w x) : qJ w u := by
  refine ⟨fun k hk hj => ?_, fun j _ => by rw [h 231 (by omega)]⟩
  refine h k ?_
  unfold qJc at hj
  simp only [Bool.or_eq_false_iff, Bool.and_eq_false_iff, decide_eq_false_iff_not] at hj
  omega
theorem u_tire {n : Nat} {w : zWd} (h : qInv n w) (a m : Int32) : qBoth n w (mX11_tire 0 a m) (mX12_tire 231 a m) := by
  obtain ⟨D, hD, d1, d2⟩ := q_today h
  obtain ⟨T, hT, e1, e2⟩ := q_taps h
  have e3 : (w 232 1).toInt = T := by rw [e2, nIi (by omega)]
  rcases zX a T T rfl (by omega) with ha | ⟨a, ha, rfl⟩
  · exact qBoth_id h (-1) (by unfold mX11_tire; simp (disch := (first | omega | (simp (disch := omega) only [zu1, zu2, zu3, nIi, e1]; omega))) only [if_true, if_false, zE10, zE00, zOkN, Nat.reduceAdd, Nat.reduceMul, zcl_s, zif01, zbn_e, nIi, nI_clamp, nI_add, nI_1, pk_mul, zgi, zlt, zle, Int32.zero_add, Int32.add_zero, C0, C1, G0, G1, Nat.zero_add, Nat.add_zero, l2, l3, l4, l5, l6, l7, l8, l10, l11, l12, l20, l30, l48, l50, l60, l100, l120, l140, l152, l164, l176, l188, l200, l212, l224, l1604, l1880, l2000, l2008, l2016, l2024, l2032, l2040, l2048, l2210, l2240, l2270, l2300, l2330, l2390, l2450, l2510, l2570, l2590, l2620, l2650, l2660, l2700, T0, T1, Tm1, Tm99, Tm999, p_within, p_in, p_isCell, p_isOwner, p_isDay11, p_isDay12, p_isTap11, p_isTaker11, if_pos, if_neg, p_isTap12, p_isTaker12, p_isGone, zu1, zu2, zu3, nIe, Nat.reduceSub, e1]) (by unfold mX12_tire; simp (disch := (first | omega | (simp (disch := omega) only [zu1, zu2, zu3, nIi, e2]; omega))) only [if_true, if_false, zE10, zE00, zOkN, Nat.reduceAdd, Nat.reduceMul, zcl_s, zif01, zbn_e, nIi, nI_clamp, nI_add, nI_1, pk_mul, zgi, zlt, zle, Int32.zero_add, Int32.add_zero, C0, C1, G0, G1, Nat.zero_add, Nat.add_zero, l2, l3, l4, l5, l6, l7, l8, l10, l11, l12, l20, l30, l48, l50, l60, l100, l120, l140, l152, l164, l176, l188, l200, l212, l224, l1604, l1880, l2000, l2008, l2016, l2024, l2032, l2040, l2048, l2210, l2240, l2270, l2300, l2330, l2390, l2450, l2510, l2570, l2590, l2620, l2650, l2660, l2700, T0, T1, Tm1, Tm99, Tm999, p_within, p_in, p_isCell, p_isOwner, p_isDay11, p_isDay12, p_isTap11, p_isTaker11, if_pos, if_neg, p_isTap12, p_isTaker12, p_isGone, zu1, zu2, zu3, nIe, Nat.reduceSub, e2])
  by_cases hm : 1 ≤ m.toInt ∧ m.toInt ≤ 9999
  rotate_left
  · refine qBoth_id h (-2) ?_ (by unfold mX12_tire; simp (disch := (first | omega | (simp (disch := omega) only [zu1, zu2, zu3, nIi, e2, T9999]; omega))) only [if_true, if_false, zE10, zE00, zOkN, Nat.reduceAdd, Nat.reduceMul, zcl_s, zif01, zbn_e, nIi, nI_clamp, nI_add, nI_1, pk_mul, zgi, zlt, zle, Int32.zero_add, Int32.add_zero, C0, C1, G0, G1, Nat.zero_add, Nat.add_zero, l2, l3, l4, l5, l6, l7, l8, l10, l11, l12, l20, l30, l48, l50, l60, l100, l120, l140, l152, l164, l176, l188, l200, l212, l224, l1604, l1880, l2000, l2008, l2016, l2024, l2032, l2040, l2048, l2210, l2240, l2270, l2300, l2330, l2390, l2450, l2510, l2570, l2590, l2620, l2650, l2660, l2700, T0, T1, Tm1, Tm99, Tm999, p_within, p_in, p_isCell, p_isOwner, p_isDay11, p_isDay12, p_isTap11, p_isTaker11, if_pos, if_neg, p_isTap12, p_isTaker12, p_isGone, zu1, zu2, zu3, nIe, Nat.reduceSub, e2, T9999])
    unfold mX11_tire mX11_tire_22
    by_cases c : m.toInt < 1
    · simp (disch := (first | omega | (simp (disch := omega) only [zu1, zu2, zu3, nIi, e1]; omega))) only [if_true, if_false, zE10, zE00, zOkN, Nat.reduceAdd, Nat.reduceMul, zcl_s, zif01, zbn_e, nIi, nI_clamp, nI_add, nI_1, pk_mul, zgi, zlt, zle, Int32.zero_add, Int32.add_zero, C0, C1, G0, G1, Nat.zero_add, Nat.add_zero, l2, l3, l4, l5, l6, l7, l8, l10, l11, l12, l20, l30, l48, l50, l60, l100, l120, l140, l152, l164, l176, l188, l200, l212, l224, l1604, l1880, l2000, l2008, l2016, l2024, l2032, l2040, l2048, l2210, l2240, l2270, l2300, l2330, l2390, l2450, l2510, l2570, l2590, l2620, l2650, l2660, l2700, T0, T1, Tm1, Tm99, Tm999, p_within, p_in, p_isCell, p_isOwner, p_isDay11, p_isDay12, p_isTap11, p_isTaker11, if_pos, if_neg, p_isTap12, p_isTaker12, p_isGone, zu1, zu2, zu3, nIe, Nat.reduceSub, e1]
    · simp (disch := (first | omega | (simp (disch := omega) only [zu1, zu2, zu3, nIi, e1, T9999]; omega))) only [if_true, if_false, zE10, zE00, zOkN, Nat.reduceAdd, Nat.reduceMul, zcl_s, zif01, zbn_e, nIi, nI_clamp, nI_add, nI_1, pk_mul, zgi, zlt, zle, Int32.zero_add, Int32.add_zero, C0, C1, G0, G1, Nat.zero_add, Nat.add_zero, l2, l3, l4, l5, l6, l7, l8, l10, l11, l12, l20, l30, l48, l50, l60, l100, l120, l140, l152, l164, l176, l188, l200, l212, l224, l1604, l1880, l2000, l2008, l2016, l2024, l2032, l2040, l2048, l2210, l2240, l2270, l2300, l2330, l2390, l2450, l2510, l2570, l2590, l2620, l2650, l2660, l2700, T0, T1, Tm1, Tm99, Tm999, p_within, p_in, p_isCell, p_isOwner, p_isDay11, p_isDay12, p_isTap11, p_isTaker11, if_pos, if_neg, p_isTap12, p_isTaker12, p_isGone, zu1, zu2, zu3, nIe, Nat.reduceSub, e1, T9999]
  obtain ⟨cl, hP, hR, k1, hsh, h3, hk, h8⟩ := q_gr h hT e2
  obtain ⟨wt, y1, y2, y3, y4, y5, y6⟩ := s_copy0 w
  have hans : ∃ ans : Int32, (∃ r, r < 60 ∧ D + r < 400 ∧ (ySf (w 4) (w 6) (qBit (w 2 2)) cl T (wt 207) (wt 213) (wt 212) r a 2).toInt < m.toInt ∧ (∀ j, j < r → ¬ (ySf (w 4) (w 6) (qBit (w 2 2)) cl T (wt 207) (wt 213) (wt 212) j a 2).toInt < m.toInt) ∧ ans = nI (D + r)) ∨ ((∀ j, j < 60 → D + j < 400 → ¬ (ySf (w 4) (w 6) (qBit (w 2 2)) cl T (wt 207) (wt 213) (wt 212) j a 2).toInt < m.toInt) ∧ ans = -5) := by
    rcases Classical.em (∃ r, r < 60 ∧ (D + r < 400 ∧ (ySf (w 4) (w 6) (qBit (w 2 2)) cl T (wt 207) (wt 213) (wt 212) r a 2).toInt < m.toInt)) with c | c
    · obtain ⟨r, r1, ⟨r2, r3⟩, r4⟩ := q_least _ 60 c
      exact ⟨_, Or.inl ⟨r, r1, r2, r3, fun j hj q => r4 j hj ⟨by omega, q⟩, rfl⟩⟩
    · exact ⟨_, Or.inr ⟨fun j h1 h2 q => c ⟨j, h1, h2, q⟩, rfl⟩⟩
  obtain ⟨ans, hA⟩ := hans
  have hR2 : yRg (wt 207) := yRg_c hR y5
  obtain ⟨u, c1, c2⟩ := s_tire11 (w := w) (wt := wt) hT ha hD d1 hm hP hR2 k1 y2 (by rw [y3]; exact e1) y4 (fun j hj => ⟨(y6 j hj).1, (y6 j hj).2.1, (y6 j hj).2.2.1⟩) ans hA
  have u232 : u 232 = w 232 := c2 232 (by omega)
  obtain ⟨uk, b1, b2, b3, b4⟩ := s_keeps u
  have uk232 : uk 232 = w 232 := (b2 232 (by decide) (by decide)).trans u232
  obtain ⟨u2, m1, m2, m3⟩ := s_tire12 (w := w) (u0 := uk) (C := wt 207) (S := wt 213) (ln := wt 212) hT ha hD hm hP hR2 k1 hsh d2 e2 (fun j hj => by rw [h3 j hj, y5 j hj]) hk (fun t ht => by rw [(h8 t (by omega)).1, (h8 t (by omega)).2, (y6 t (by omega)).2.2.2.2.1, (y6 t (by omega)).2.2.2.2.2]; exact ⟨rfl, rfl⟩) uk232 (fun j hj => by rw [b3 j hj, u232]) (fun t ht => by rw [b4 t ht, u232]) ans hA
  refine qBoth_j h (r := ans) (w1 := u) (w2 := u2) ?_ ?_ ?_
  · unfold mX11_tire
    simp (disch := (first | omega | (simp (disch := omega) only [zu1, zu2, zu3, nIi, e1, T9999, y1]; omega))) only [if_true, if_false, zE10, zE00, zOkN, Nat.reduceAdd, Nat.reduceMul, zcl_s, zif01, zbn_e, nIi, nI_clamp, nI_add, nI_1, pk_mul, zgi, zlt, zle, Int32.zero_add, Int32.add_zero, C0, C1, G0, G1, Nat.zero_add, Nat.add_zero, l2, l3, l4, l5, l6, l7, l8, l10, l11, l12, l20, l30, l48, l50, l60, l100, l120, l140, l152, l164, l176, l188, l200, l212, l224, l1604, l1880, l2000, l2008, l2016, l2024, l2032, l2040, l2048, l2210, l2240, l2270, l2300, l2330, l2390, l2450, l2510, l2570, l2590, l2620, l2650, l2660, l2700, T0, T1, Tm1, Tm99, Tm999, p_within, p_in, p_isCell, p_isOwner, p_isDay11, p_isDay12, p_isTap11, p_isTaker11, if_pos, if_neg, p_isTap12, p_isTaker12, p_isGone, zu1, zu2, zu3, nIe, Nat.reduceSub, e1, T9999, y1]
    exact c1
  · unfold mX12_tire
    simp (disch := (first | omega | (simp (disch := omega) only [zu1, zu2, zu3, nIi, u232, e2, T9999, b1, uk232, d2]; omega))) only [if_true, if_false, zE10, zE00, zOkN, Nat.reduceAdd, Nat.reduceMul, zcl_s, zif01, zbn_e, nIi, nI_clamp, nI_add, nI_1, pk_mul, zgi, zlt, zle, Int32.zero_add, Int32.add_zero, C0, C1, G0, G1, Nat.zero_add, Nat.add_zero, l2, l3, l4, l5, l6, l7, l8, l10, l11, l12, l20, l30, l48, l50, l60, l100, l120, l140, l152, l164, l176, l188, l200, l212, l224, l1604, l1880, l2000, l2008, l2016, l2024, l2032, l2040, l2048, l2210, l2240, l2270, l2300, l2330, l2390, l2450, l2510, l2570, l2590, l2620, l2650, l2660, l2700, T0, T1, Tm1, Tm99, Tm999, p_within, p_in, p_isCell, p_isOwner, p_isDay11, p_isDay12, p_isTap11, p_isTaker11, if_pos, if_neg, p_isTap12, p_isTaker12, p_isGone, zu1, zu2, zu3, nIe, Nat.reduceSub, u232, e2, T9999, b1, uk232, d2]
    exact m1
  · refine (qJ.lo2 c2).tr ⟨fun x hx hj => ?_, fun j _ => by rw [m2 231 (by decide) (by decide), b2 231 (by decide) (by decide)]⟩
    by_cases c : x = 232
    · rw [c, m3, u232]
    · unfold qJc at hj
      simp only [Bool.or_eq_false_iff, Bool.and_eq_false_iff, decide_eq_false_iff_not] at hj
      rw [m2 x c (by omega), b2 x (by omega) (by omega)]
