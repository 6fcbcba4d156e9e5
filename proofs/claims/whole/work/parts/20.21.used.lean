/-- a loop that looks for a match among the first K -/
theorem s_hasUse {w : zWd} {a K : Nat} (ha : a < 8) (hK : K ≤ 20) (e : w 88 a = nI K) (d : Int32) : mX8_hasUse 82 (nI a) d w = some (if ∃ i, i < K ∧ w 89 (20 * a + i) = d then 1 else 0, w) := by
  unfold mX8_hasUse mX8_hasUse_2
  by_cases hm : ∃ i, i < K ∧ w 89 (20 * a + i) = d
  · rw [if_pos hm]
    refine zlp_to (P := fun i q => q = (nI i, w) ∧ ∀ j, j < i → ¬ w 89 (20 * a + j) = d) (n := K) (by unfold zFU; omega) ?_ ⟨rfl, fun j hj => by omega⟩
    rintro i hi q ⟨rfl, hn⟩ k hk
    simp only [mX8_hasUse_2b]
    by_cases h : i = K
    · subst h
      obtain ⟨j, h1, h2⟩ := hm
      exact absurd h2 (hn j h1)
    · by_cases g : w 89 (20 * a + i) = d
      · simp (disch := (first | omega | (simp (disch := omega) only [zu1, zu2, zu3, nIi, e, g, zgd_t zB1, show a * 20 + i = 20 * a + i by omega]; omega))) only [if_true, if_false, zE10, zE00, zOkN, Nat.reduceAdd, Nat.reduceMul, zcl_s, zif01, zbn_e, nIi, nI_clamp, nI_add, nI_1, pk_mul, zgi, zlt, zle, Int32.zero_add, Int32.add_zero, C0, C1, G0, G1, Nat.zero_add, Nat.add_zero, l2, l3, l4, l5, l6, l7, l8, l10, l11, l12, l20, l30, l48, l50, l60, l100, l120, l140, l152, l164, l176, l188, l200, l212, l224, l1604, l1880, l2000, l2008, l2016, l2024, l2032, l2040, l2048, l2210, l2240, l2270, l2300, l2330, l2390, l2450, l2510, l2570, l2590, l2620, l2650, l2660, l2700, T0, T1, Tm1, Tm99, Tm999, p_within, p_in, p_isCell, p_isOwner, p_isDay11, p_isDay12, p_isTap11, p_isTaker11, if_pos, if_neg, p_isTap12, p_isTaker12, p_isGone, zu1, zu2, zu3, nIe, Nat.reduceSub, e, g, zgd_t zB1, show a * 20 + i = 20 * a + i by omega]
      · simp (disch := (first | omega | (simp (disch := omega) only [zu1, zu2, zu3, nIi, e, g, zgd_t zB1, show a * 20 + i = 20 * a + i by omega]; omega))) only [if_true, if_false, zE10, zE00, zOkN, Nat.reduceAdd, Nat.reduceMul, zcl_s, zif01, zbn_e, nIi, nI_clamp, nI_add, nI_1, pk_mul, zgi, zlt, zle, Int32.zero_add, Int32.add_zero, C0, C1, G0, G1, Nat.zero_add, Nat.add_zero, l2, l3, l4, l5, l6, l7, l8, l10, l11, l12, l20, l30, l48, l50, l60, l100, l120, l140, l152, l164, l176, l188, l200, l212, l224, l1604, l1880, l2000, l2008, l2016, l2024, l2032, l2040, l2048, l2210, l2240, l2270, l2300, l2330, l2390, l2450, l2510, l2570, l2590, l2620, l2650, l2660, l2700, T0, T1, Tm1, Tm99, Tm999, p_within, p_in, p_isCell, p_isOwner, p_isDay11, p_isDay12, p_isTap11, p_isTaker11, if_pos, if_neg, p_isTap12, p_isTaker12, p_isGone, zu1, zu2, zu3, nIe, Nat.reduceSub, e, g, zgd_t zB1, show a * 20 + i = 20 * a + i by omega]
        refine hk (by omega) _ ⟨rfl, fun j hj => ?_⟩
        by_cases hj2 : j = i
        · subst hj2; exact g
        · exact hn j (by omega)
  · rw [if_neg hm]
    refine zlp_to (P := fun i q => q = (nI i, w)) (n := K) (by unfold zFU; omega) ?_ rfl
    rintro i hi q rfl k hk
    simp only [mX8_hasUse_2b]
    by_cases h : i = K
    · subst h
      simp (disch := (first | omega | (simp (disch := omega) only [zu1, zu2, zu3, nIi, e, zgd_t zB0]; omega))) only [if_true, if_false, zE10, zE00, zOkN, Nat.reduceAdd, Nat.reduceMul, zcl_s, zif01, zbn_e, nIi, nI_clamp, nI_add, nI_1, pk_mul, zgi, zlt, zle, Int32.zero_add, Int32.add_zero, C0, C1, G0, G1, Nat.zero_add, Nat.add_zero, l2, l3, l4, l5, l6, l7, l8, l10, l11, l12, l20, l30, l48, l50, l60, l100, l120, l140, l152, l164, l176, l188, l200, l212, l224, l1604, l1880, l2000, l2008, l2016, l2024, l2032, l2040, l2048, l2210, l2240, l2270, l2300, l2330, l2390, l2450, l2510, l2570, l2590, l2620, l2650, l2660, l2700, T0, T1, Tm1, Tm99, Tm999, p_within, p_in, p_isCell, p_isOwner, p_isDay11, p_isDay12, p_isTap11, p_isTaker11, if_pos, if_neg, p_isTap12, p_isTaker12, p_isGone, zu1, zu2, zu3, nIe, Nat.reduceSub, e, zgd_t zB0]
    · have g : ¬ w 89 (20 * a + i) = d := fun q => hm ⟨i, by omega, q⟩
      simp (disch := (first | omega | (simp (disch := omega) only [zu1, zu2, zu3, nIi, e, g, zgd_t zB1, show a * 20 + i = 20 * a + i by omega]; omega))) only [if_true, if_false, zE10, zE00, zOkN, Nat.reduceAdd, Nat.reduceMul, zcl_s, zif01, zbn_e, nIi, nI_clamp, nI_add, nI_1, pk_mul, zgi, zlt, zle, Int32.zero_add, Int32.add_zero, C0, C1, G0, G1, Nat.zero_add, Nat.add_zero, l2, l3, l4, l5, l6, l7, l8, l10, l11, l12, l20, l30, l48, l50, l60, l100, l120, l140, l152, l164, l176, l188, l200, l212, l224, l1604, l1880, l2000, l2008, l2016, l2024, l2032, l2040, l2048, l2210, l2240, l2270, l2300, l2330, l2390, l2450, l2510, l2570, l2590, l2620, l2650, l2660, l2700, T0, T1, Tm1, Tm99, Tm999, p_within, p_in, p_isCell, p_isOwner, p_isDay11, p_isDay12, p_isTap11, p_isTaker11, if_pos, if_neg, p_isTap12, p_isTaker12, p_isGone, zu1, zu2, zu3, nIe, Nat.reduceSub, e, g, zgd_t zB1, show a * 20 + i = 20 * a + i by omega]
      exact hk (by omega) _ rfl
theorem s_used12 {w : zWd} {a K : Nat} (ha : a < 8) (hK : K ≤ 20) (e : w 232 (2040 + a) = nI K) (d : Int32) : mX12_used_38 231 (nI a) d 0 w = if ∃ i, i < K ∧ w 232 (2048 + 20 * a + i) = d then some (-3, w) else if K = 20 then some (-4, w) else some (nI (K + 1), zup (zup w 232 (2048 + 20 * a + K) d) 232 (2040 + a) (nI (K + 1))) := by
  unfold mX12_used_38
  by_cases hm : ∃ i, i < K ∧ w 232 (2048 + 20 * a + i) = d
  · rw [if_pos hm]
    refine zlp_to (P := fun i q => q = (nI i, w) ∧ ∀ j, j < i → ¬ w 232 (2048 + 20 * a + j) = d) (n := K) (by unfold zFU; omega) ?_ ⟨rfl, fun j hj => by omega⟩
    rintro i hi q ⟨rfl, hn⟩ k hk
    simp only [mX12_used_38b]
    by_cases h : i = K
    · subst h
      obtain ⟨j, h1, h2⟩ := hm
      exact absurd h2 (hn j h1)
    · by_cases g : w 232 (2048 + 20 * a + i) = d
      · simp (disch := (first | omega | (simp (disch := omega) only [zu1, zu2, zu3, nIi, e, g]; omega))) only [if_true, if_false, zE10, zE00, zOkN, Nat.reduceAdd, Nat.reduceMul, zcl_s, zif01, zbn_e, nIi, nI_clamp, nI_add, nI_1, pk_mul, zgi, zlt, zle, Int32.zero_add, Int32.add_zero, C0, C1, G0, G1, Nat.zero_add, Nat.add_zero, l2, l3, l4, l5, l6, l7, l8, l10, l11, l12, l20, l30, l48, l50, l60, l100, l120, l140, l152, l164, l176, l188, l200, l212, l224, l1604, l1880, l2000, l2008, l2016, l2024, l2032, l2040, l2048, l2210, l2240, l2270, l2300, l2330, l2390, l2450, l2510, l2570, l2590, l2620, l2650, l2660, l2700, T0, T1, Tm1, Tm99, Tm999, p_within, p_in, p_isCell, p_isOwner, p_isDay11, p_isDay12, p_isTap11, p_isTaker11, if_pos, if_neg, p_isTap12, p_isTaker12, p_isGone, zu1, zu2, zu3, nIe, Nat.reduceSub, e, g]
      · simp (disch := (first | omega | (simp (disch := omega) only [zu1, zu2, zu3, nIi, e, g]; omega))) only [if_true, if_false, zE10, zE00, zOkN, Nat.reduceAdd, Nat.reduceMul, zcl_s, zif01, zbn_e, nIi, nI_clamp, nI_add, nI_1, pk_mul, zgi, zlt, zle, Int32.zero_add, Int32.add_zero, C0, C1, G0, G1, Nat.zero_add, Nat.add_zero, l2, l3, l4, l5, l6, l7, l8, l10, l11, l12, l20, l30, l48, l50, l60, l100, l120, l140, l152, l164, l176, l188, l200, l212, l224, l1604, l1880, l2000, l2008, l2016, l2024, l2032, l2040, l2048, l2210, l2240, l2270, l2300, l2330, l2390, l2450, l2510, l2570, l2590, l2620, l2650, l2660, l2700, T0, T1, Tm1, Tm99, Tm999, p_within, p_in, p_isCell, p_isOwner, p_isDay11, p_isDay12, p_isTap11, p_isTaker11, if_pos, if_neg, p_isTap12, p_isTaker12, p_isGone, zu1, zu2, zu3, nIe, Nat.reduceSub, e, g]
        refine hk (by omega) _ ⟨rfl, fun j hj => ?_⟩
        by_cases hj2 : j = i
        · subst hj2; exact g
        · exact hn j (by omega)
  · rw [if_neg hm]
    refine zlp_to (P := fun i q => q = (nI i, w)) (n := K) (by unfold zFU; omega) ?_ rfl
    rintro i hi q rfl k hk
    simp only [mX12_used_38b]
    by_cases h : i = K
    · subst h
      by_cases h20 : i = 20
      · simp (disch := (first | omega | (simp (disch := omega) only [zu1, zu2, zu3, nIi, e]; omega))) only [if_true, if_false, zE10, zE00, zOkN, Nat.reduceAdd, Nat.reduceMul, zcl_s, zif01, zbn_e, nIi, nI_clamp, nI_add, nI_1, pk_mul, zgi, zlt, zle, Int32.zero_add, Int32.add_zero, C0, C1, G0, G1, Nat.zero_add, Nat.add_zero, l2, l3, l4, l5, l6, l7, l8, l10, l11, l12, l20, l30, l48, l50, l60, l100, l120, l140, l152, l164, l176, l188, l200, l212, l224, l1604, l1880, l2000, l2008, l2016, l2024, l2032, l2040, l2048, l2210, l2240, l2270, l2300, l2330, l2390, l2450, l2510, l2570, l2590, l2620, l2650, l2660, l2700, T0, T1, Tm1, Tm99, Tm999, p_within, p_in, p_isCell, p_isOwner, p_isDay11, p_isDay12, p_isTap11, p_isTaker11, if_pos, if_neg, p_isTap12, p_isTaker12, p_isGone, zu1, zu2, zu3, nIe, Nat.reduceSub, e]
      · simp (disch := (first | omega | (simp (disch := omega) only [zu1, zu2, zu3, nIi, e]; omega))) only [if_true, if_false, zE10, zE00, zOkN, Nat.reduceAdd, Nat.reduceMul, zcl_s, zif01, zbn_e, nIi, nI_clamp, nI_add, nI_1, pk_mul, zgi, zlt, zle, Int32.zero_add, Int32.add_zero, C0, C1, G0, G1, Nat.zero_add, Nat.add_zero, l2, l3, l4, l5, l6, l7, l8, l10, l11, l12, l20, l30, l48, l50, l60, l100, l120, l140, l152, l164, l176, l188, l200, l212, l224, l1604, l1880, l2000, l2008, l2016, l2024, l2032, l2040, l2048, l2210, l2240, l2270, l2300, l2330, l2390, l2450, l2510, l2570, l2590, l2620, l2650, l2660, l2700, T0, T1, Tm1, Tm99, Tm999, p_within, p_in, p_isCell, p_isOwner, p_isDay11, p_isDay12, p_isTap11, p_isTaker11, if_pos, if_neg, p_isTap12, p_isTaker12, p_isGone, zu1, zu2, zu3, nIe, Nat.reduceSub, e]
    · have g : ¬ w 232 (2048 + 20 * a + i) = d := fun q => hm ⟨i, by omega, q⟩
      simp (disch := (first | omega | (simp (disch := omega) only [zu1, zu2, zu3, nIi, e, g]; omega))) only [if_true, if_false, zE10, zE00, zOkN, Nat.reduceAdd, Nat.reduceMul, zcl_s, zif01, zbn_e, nIi, nI_clamp, nI_add, nI_1, pk_mul, zgi, zlt, zle, Int32.zero_add, Int32.add_zero, C0, C1, G0, G1, Nat.zero_add, Nat.add_zero, l2, l3, l4, l5, l6, l7, l8, l10, l11, l12, l20, l30, l48, l50, l60, l100, l120, l140, l152, l164, l176, l188, l200, l212, l224, l1604, l1880, l2000, l2008, l2016, l2024, l2032, l2040, l2048, l2210, l2240, l2270, l2300, l2330, l2390, l2450, l2510, l2570, l2590, l2620, l2650, l2660, l2700, T0, T1, Tm1, Tm99, Tm999, p_within, p_in, p_isCell, p_isOwner, p_isDay11, p_isDay12, p_isTap11, p_isTaker11, if_pos, if_neg, p_isTap12, p_isTaker12, p_isGone, zu1, zu2, zu3, nIe, Nat.reduceSub, e, g]
      exact hk (by omega) _ rfl
theorem u_used {n : Nat} {w : zWd} (h : qInv n w) (a d : Int32) : qBoth n w (mX11_used 0 a d) (mX12_used 231 a d) := by
  obtain ⟨D, hD, d1, d2⟩ := q_today h
  obtain ⟨T, hT, e1, e2⟩ := q_takers h
  have e3 : (w 232 3).toInt = T := by rw [e2, nIi (by omega)]
  rcases zX a T T rfl (by omega) with ha | ⟨a, ha, rfl⟩
  · exact qBoth_id h (-1) (by unfold mX11_used; simp (disch := (first | omega | (simp (disch := omega) only [zu1, zu2, zu3, nIi, e1]; omega))) only [if_true, if_false, zE10, zE00, zOkN, Nat.reduceAdd, Nat.reduceMul, zcl_s, zif01, zbn_e, nIi, nI_clamp, nI_add, nI_1, pk_mul, zgi, zlt, zle, Int32.zero_add, Int32.add_zero, C0, C1, G0, G1, Nat.zero_add, Nat.add_zero, l2, l3, l4, l5, l6, l7, l8, l10, l11, l12, l20, l30, l48, l50, l60, l100, l120, l140, l152, l164, l176, l188, l200, l212, l224, l1604, l1880, l2000, l2008, l2016, l2024, l2032, l2040, l2048, l2210, l2240, l2270, l2300, l2330, l2390, l2450, l2510, l2570, l2590, l2620, l2650, l2660, l2700, T0, T1, Tm1, Tm99, Tm999, p_within, p_in, p_isCell, p_isOwner, p_isDay11, p_isDay12, p_isTap11, p_isTaker11, if_pos, if_neg, p_isTap12, p_isTaker12, p_isGone, zu1, zu2, zu3, nIe, Nat.reduceSub, e1]) (by unfold mX12_used; simp (disch := (first | omega | (simp (disch := omega) only [zu1, zu2, zu3, nIi, e2]; omega))) only [if_true, if_false, zE10, zE00, zOkN, Nat.reduceAdd, Nat.reduceMul, zcl_s, zif01, zbn_e, nIi, nI_clamp, nI_add, nI_1, pk_mul, zgi, zlt, zle, Int32.zero_add, Int32.add_zero, C0, C1, G0, G1, Nat.zero_add, Nat.add_zero, l2, l3, l4, l5, l6, l7, l8, l10, l11, l12, l20, l30, l48, l50, l60, l100, l120, l140, l152, l164, l176, l188, l200, l212, l224, l1604, l1880, l2000, l2008, l2016, l2024, l2032, l2040, l2048, l2210, l2240, l2270, l2300, l2330, l2390, l2450, l2510, l2570, l2590, l2620, l2650, l2660, l2700, T0, T1, Tm1, Tm99, Tm999, p_within, p_in, p_isCell, p_isOwner, p_isDay11, p_isDay12, p_isTap11, p_isTaker11, if_pos, if_neg, p_isTap12, p_isTaker12, p_isGone, zu1, zu2, zu3, nIe, Nat.reduceSub, e2])
  obtain ⟨F, hF, f1, f2⟩ := qSc h 17 21 rfl rfl (by decide) (i := a) (by omega)
  simp only [Nat.zero_add, Nat.reduceAdd] at f1
  have hF2 : F ≤ 400 := hF
  obtain ⟨K, hK, k1, k2⟩ := qSc h 18 22 rfl rfl (by decide) (i := a) (by omega)
  simp only [Nat.zero_add, Nat.reduceAdd] at k1
  have hK2 : K ≤ 20 := hK
  by_cases hd : F ≤ d.toInt ∧ d.toInt ≤ D
  rotate_left
  · refine qBoth_id h (-2) ?_ (by unfold mX12_used; simp (disch := (first | omega | (simp (disch := omega) only [zu1, zu2, zu3, nIi, e2, f2, d2]; omega))) only [if_true, if_false, zE10, zE00, zOkN, Nat.reduceAdd, Nat.reduceMul, zcl_s, zif01, zbn_e, nIi, nI_clamp, nI_add, nI_1, pk_mul, zgi, zlt, zle, Int32.zero_add, Int32.add_zero, C0, C1, G0, G1, Nat.zero_add, Nat.add_zero, l2, l3, l4, l5, l6, l7, l8, l10, l11, l12, l20, l30, l48, l50, l60, l100, l120, l140, l152, l164, l176, l188, l200, l212, l224, l1604, l1880, l2000, l2008, l2016, l2024, l2032, l2040, l2048, l2210, l2240, l2270, l2300, l2330, l2390, l2450, l2510, l2570, l2590, l2620, l2650, l2660, l2700, T0, T1, Tm1, Tm99, Tm999, p_within, p_in, p_isCell, p_isOwner, p_isDay11, p_isDay12, p_isTap11, p_isTaker11, if_pos, if_neg, p_isTap12, p_isTaker12, p_isGone, zu1, zu2, zu3, nIe, Nat.reduceSub, e2, f2, d2])
    unfold mX11_used
    by_cases h1 : d.toInt < F
    · simp (disch := (first | omega | (simp (disch := omega) only [zu1, zu2, zu3, nIi, e1, f1, d1, mX11_used_37]; omega))) only [if_true, if_false, zE10, zE00, zOkN, Nat.reduceAdd, Nat.reduceMul, zcl_s, zif01, zbn_e, nIi, nI_clamp, nI_add, nI_1, pk_mul, zgi, zlt, zle, Int32.zero_add, Int32.add_zero, C0, C1, G0, G1, Nat.zero_add, Nat.add_zero, l2, l3, l4, l5, l6, l7, l8, l10, l11, l12, l20, l30, l48, l50, l60, l100, l120, l140, l152, l164, l176, l188, l200, l212, l224, l1604, l1880, l2000, l2008, l2016, l2024, l2032, l2040, l2048, l2210, l2240, l2270, l2300, l2330, l2390, l2450, l2510, l2570, l2590, l2620, l2650, l2660, l2700, T0, T1, Tm1, Tm99, Tm999, p_within, p_in, p_isCell, p_isOwner, p_isDay11, p_isDay12, p_isTap11, p_isTaker11, if_pos, if_neg, p_isTap12, p_isTaker12, p_isGone, zu1, zu2, zu3, nIe, Nat.reduceSub, e1, f1, d1, mX11_used_37]
    · simp (disch := (first | omega | (simp (disch := omega) only [zu1, zu2, zu3, nIi, e1, f1, d1, mX11_used_37]; omega))) only [if_true, if_false, zE10, zE00, zOkN, Nat.reduceAdd, Nat.reduceMul, zcl_s, zif01, zbn_e, nIi, nI_clamp, nI_add, nI_1, pk_mul, zgi, zlt, zle, Int32.zero_add, Int32.add_zero, C0, C1, G0, G1, Nat.zero_add, Nat.add_zero, l2, l3, l4, l5, l6, l7, l8, l10, l11, l12, l20, l30, l48, l50, l60, l100, l120, l140, l152, l164, l176, l188, l200, l212, l224, l1604, l1880, l2000, l2008, l2016, l2024, l2032, l2040, l2048, l2210, l2240, l2270, l2300, l2330, l2390, l2450, l2510, l2570, l2590, l2620, l2650, l2660, l2700, T0, T1, Tm1, Tm99, Tm999, p_within, p_in, p_isCell, p_isOwner, p_isDay11, p_isDay12, p_isTap11, p_isTaker11, if_pos, if_neg, p_isTap12, p_isTaker12, p_isGone, zu1, zu2, zu3, nIe, Nat.reduceSub, e1, f1, d1, mX11_used_37]
  have hq : ∀ i, i < K → w 89 (20 * a + i) = w 232 (2048 + 20 * a + i) := fun i hi => by
    have q := qTo h 19 rfl (by decide) (i := 20 * a + i) (by omega)
    simp only [Nat.zero_add, Nat.reduceAdd] at q
    rw [q]; congr 1; omega
  have hE : (∃ i, i < K ∧ w 89 (20 * a + i) = d) ↔ (∃ i, i < K ∧ w 232 (2048 + 20 * a + i) = d) := ⟨fun ⟨i, g1, g2⟩ => ⟨i, g1, by rw [← hq i g1]; exact g2⟩, fun ⟨i, g1, g2⟩ => ⟨i, g1, by rw [hq i g1]; exact g2⟩⟩
  have hc := s_hasUse (w := w) (by omega) hK2 k1 d
  by_cases hm : ∃ i, i < K ∧ w 232 (2048 + 20 * a + i) = d
  · rw [if_pos (hE.mpr hm)] at hc
    refine qBoth_id h (-3) ?_ ?_
    · unfold mX11_used
      simp (disch := (first | omega | (simp (disch := omega) only [zu1, zu2, zu3, nIi, e1, f1, d1, hc, show ((1 : Int32) = 0) = False by simp]; omega))) only [if_true, if_false, zE10, zE00, zOkN, Nat.reduceAdd, Nat.reduceMul, zcl_s, zif01, zbn_e, nIi, nI_clamp, nI_add, nI_1, pk_mul, zgi, zlt, zle, Int32.zero_add, Int32.add_zero, C0, C1, G0, G1, Nat.zero_add, Nat.add_zero, l2, l3, l4, l5, l6, l7, l8, l10, l11, l12, l20, l30, l48, l50, l60, l100, l120, l140, l152, l164, l176, l188, l200, l212, l224, l1604, l1880, l2000, l2008, l2016, l2024, l2032, l2040, l2048, l2210, l2240, l2270, l2300, l2330, l2390, l2450, l2510, l2570, l2590, l2620, l2650, l2660, l2700, T0, T1, Tm1, Tm99, Tm999, p_within, p_in, p_isCell, p_isOwner, p_isDay11, p_isDay12, p_isTap11, p_isTaker11, if_pos, if_neg, p_isTap12, p_isTaker12, p_isGone, zu1, zu2, zu3, nIe, Nat.reduceSub, e1, f1, d1, hc, show ((1 : Int32) = 0) = False by simp]
    · unfold mX12_used
      simp (disch := (first | omega | (simp (disch := omega) only [zu1, zu2, zu3, nIi, e2, f2, d2]; omega))) only [if_true, if_false, zE10, zE00, zOkN, Nat.reduceAdd, Nat.reduceMul, zcl_s, zif01, zbn_e, nIi, nI_clamp, nI_add, nI_1, pk_mul, zgi, zlt, zle, Int32.zero_add, Int32.add_zero, C0, C1, G0, G1, Nat.zero_add, Nat.add_zero, l2, l3, l4, l5, l6, l7, l8, l10, l11, l12, l20, l30, l48, l50, l60, l100, l120, l140, l152, l164, l176, l188, l200, l212, l224, l1604, l1880, l2000, l2008, l2016, l2024, l2032, l2040, l2048, l2210, l2240, l2270, l2300, l2330, l2390, l2450, l2510, l2570, l2590, l2620, l2650, l2660, l2700, T0, T1, Tm1, Tm99, Tm999, p_within, p_in, p_isCell, p_isOwner, p_isDay11, p_isDay12, p_isTap11, p_isTaker11, if_pos, if_neg, p_isTap12, p_isTaker12, p_isGone, zu1, zu2, zu3, nIe, Nat.reduceSub, e2, f2, d2]
      rw [s_used12 (by omega) hK2 k2 d, if_pos hm]
      rfl
  rw [if_neg (fun q => hm (hE.mp q))] at hc
  have i00 : ((0 : Int32) = 0) = True := by simp
  by_cases h20 : K = 20
  · refine qBoth_id h (-4) ?_ ?_
    · unfold mX11_used
      simp (disch := (first | omega | (simp (disch := omega) only [zu1, zu2, zu3, nIi, e1, f1, d1, hc, i00, k1, T20]; omega))) only [if_true, if_false, zE10, zE00, zOkN, Nat.reduceAdd, Nat.reduceMul, zcl_s, zif01, zbn_e, nIi, nI_clamp, nI_add, nI_1, pk_mul, zgi, zlt, zle, Int32.zero_add, Int32.add_zero, C0, C1, G0, G1, Nat.zero_add, Nat.add_zero, l2, l3, l4, l5, l6, l7, l8, l10, l11, l12, l20, l30, l48, l50, l60, l100, l120, l140, l152, l164, l176, l188, l200, l212, l224, l1604, l1880, l2000, l2008, l2016, l2024, l2032, l2040, l2048, l2210, l2240, l2270, l2300, l2330, l2390, l2450, l2510, l2570, l2590, l2620, l2650, l2660, l2700, T0, T1, Tm1, Tm99, Tm999, p_within, p_in, p_isCell, p_isOwner, p_isDay11, p_isDay12, p_isTap11, p_isTaker11, if_pos, if_neg, p_isTap12, p_isTaker12, p_isGone, zu1, zu2, zu3, nIe, Nat.reduceSub, e1, f1, d1, hc, i00, k1, T20]
    · unfold mX12_used
      simp (disch := (first | omega | (simp (disch := omega) only [zu1, zu2, zu3, nIi, e2, f2, d2]; omega))) only [if_true, if_false, zE10, zE00, zOkN, Nat.reduceAdd, Nat.reduceMul, zcl_s, zif01, zbn_e, nIi, nI_clamp, nI_add, nI_1, pk_mul, zgi, zlt, zle, Int32.zero_add, Int32.add_zero, C0, C1, G0, G1, Nat.zero_add, Nat.add_zero, l2, l3, l4, l5, l6, l7, l8, l10, l11, l12, l20, l30, l48, l50, l60, l100, l120, l140, l152, l164, l176, l188, l200, l212, l224, l1604, l1880, l2000, l2008, l2016, l2024, l2032, l2040, l2048, l2210, l2240, l2270, l2300, l2330, l2390, l2450, l2510, l2570, l2590, l2620, l2650, l2660, l2700, T0, T1, Tm1, Tm99, Tm999, p_within, p_in, p_isCell, p_isOwner, p_isDay11, p_isDay12, p_isTap11, p_isTaker11, if_pos, if_neg, p_isTap12, p_isTaker12, p_isGone, zu1, zu2, zu3, nIe, Nat.reduceSub, e2, f2, d2]
      rw [s_used12 (by omega) hK2 k2 d, if_neg hm, if_pos h20]
      rfl
  refine qBoth_mk h (r := nI (K + 1)) (w1 := zup (zup w 89 (20 * a + K) d) 88 a (nI (K + 1))) (w2 := zup (zup (zup (zup w 89 (20 * a + K) d) 88 a (nI (K + 1))) 232 (2048 + 20 * a + K) d) 232 (2040 + a) (nI (K + 1))) ?_ ?_ ?_ ?_ ?_ ?_
  · unfold mX11_used mX8_addUse
    simp (disch := (first | omega | (simp (disch := omega) only [zu1, zu2, zu3, nIi, e1, f1, d1, hc, i00, k1, T20, show a * 20 + K = 20 * a + K by omega]; omega))) only [if_true, if_false, zE10, zE00, zOkN, Nat.reduceAdd, Nat.reduceMul, zcl_s, zif01, zbn_e, nIi, nI_clamp, nI_add, nI_1, pk_mul, zgi, zlt, zle, Int32.zero_add, Int32.add_zero, C0, C1, G0, G1, Nat.zero_add, Nat.add_zero, l2, l3, l4, l5, l6, l7, l8, l10, l11, l12, l20, l30, l48, l50, l60, l100, l120, l140, l152, l164, l176, l188, l200, l212, l224, l1604, l1880, l2000, l2008, l2016, l2024, l2032, l2040, l2048, l2210, l2240, l2270, l2300, l2330, l2390, l2450, l2510, l2570, l2590, l2620, l2650, l2660, l2700, T0, T1, Tm1, Tm99, Tm999, p_within, p_in, p_isCell, p_isOwner, p_isDay11, p_isDay12, p_isTap11, p_isTaker11, if_pos, if_neg, p_isTap12, p_isTaker12, p_isGone, zu1, zu2, zu3, nIe, Nat.reduceSub, e1, f1, d1, hc, i00, k1, T20, show a * 20 + K = 20 * a + K by omega]
  · unfold mX12_used
    simp (disch := (first | omega | (simp (disch := omega) only [zu1, zu2, zu3, nIi, e2, f2, d2]; omega))) only [if_true, if_false, zE10, zE00, zOkN, Nat.reduceAdd, Nat.reduceMul, zcl_s, zif01, zbn_e, nIi, nI_clamp, nI_add, nI_1, pk_mul, zgi, zlt, zle, Int32.zero_add, Int32.add_zero, C0, C1, G0, G1, Nat.zero_add, Nat.add_zero, l2, l3, l4, l5, l6, l7, l8, l10, l11, l12, l20, l30, l48, l50, l60, l100, l120, l140, l152, l164, l176, l188, l200, l212, l224, l1604, l1880, l2000, l2008, l2016, l2024, l2032, l2040, l2048, l2210, l2240, l2270, l2300, l2330, l2390, l2450, l2510, l2570, l2590, l2620, l2650, l2660, l2700, T0, T1, Tm1, Tm99, Tm999, p_within, p_in, p_isCell, p_isOwner, p_isDay11, p_isDay12, p_isTap11, p_isTaker11, if_pos, if_neg, p_isTap12, p_isTaker12, p_isGone, zu1, zu2, zu3, nIe, Nat.reduceSub, e2, f2, d2]
    rw [s_used12 (K := K) (by omega) hK2 (by simp (disch := (first | omega | (simp (disch := omega) only [zu1, zu2, zu3, nIi]; omega))) only [if_true, if_false, zE10, zE00, zOkN, Nat.reduceAdd, Nat.reduceMul, zcl_s, zif01, zbn_e, nIi, nI_clamp, nI_add, nI_1, pk_mul, zgi, zlt, zle, Int32.zero_add, Int32.add_zero, C0, C1, G0, G1, Nat.zero_add, Nat.add_zero, l2, l3, l4, l5, l6, l7, l8, l10, l11, l12, l20, l30, l48, l50, l60, l100, l120, l140, l152, l164, l176, l188, l200, l212, l224, l1604, l1880, l2000, l2008, l2016, l2024, l2032, l2040, l2048, l2210, l2240, l2270, l2300, l2330, l2390, l2450, l2510, l2570, l2590, l2620, l2650, l2660, l2700, T0, T1, Tm1, Tm99, Tm999, p_within, p_in, p_isCell, p_isOwner, p_isDay11, p_isDay12, p_isTap11, p_isTaker11, if_pos, if_neg, p_isTap12, p_isTaker12, p_isGone, zu1, zu2, zu3, nIe, Nat.reduceSub]; exact k2) d]
    simp (disch := omega) only [zu1]
    rw [if_neg hm, if_neg h20]
  · exact (((((qFm.rf w).up _ _ (by decide) (by omega)).up _ _ (by decide) (by omega)).up _ _ (by decide) (by omega)).up _ _ (by decide) (by omega))
  · simp (disch := omega) only [qV1, qV3, qup_s, zpE, Nat.reduceSub, Nat.reduceAdd]
    exact (qRk_put ((qRk_put (h.1.k) 19 rfl (i := 20 * a + K) (by omega) (by omega) (by omega) (by omega) (by omega) (lo := 2048) (hi := 2208) (a1 := 0) (a2 := 400) (by decide) (by omega) (by omega) (by omega))) 18 rfl (i := a) (by omega) (by omega) (by omega) (by omega) (by omega) (lo := 2040) (hi := 2048) (a1 := 0) (a2 := 20) (by decide) (by omega) (by omega) (by (rw [nIi (by omega)]; omega)))
  · simp (disch := omega) only [qup_s, zpE]
    exact ((qHd h.1).s_ (by omega)).s_ (by omega)
  · simp (disch := omega) only [zu1, zu2]
    exact Int.le_refl _
