theorem nIs {a b : Nat} (ha : a < 2 ^ 30) (hb : b < 2 ^ 30) : (nI a - nI b).toInt = (a : Int) - b := by
  rw [Int32.toInt_sub, nIi (by omega), nIi (by omega), Int.bmod_eq_of_le (by omega) (by omega)]
def qNd (k H : Nat) : Nat := if k = 1 then H + 10 else if k = 2 then H - 20 else if k = 3 then H / 2 else if k = 4 then H - 20 else if k = 5 then H - 20 + 5 else H
theorem qNd_le {k H : Nat} (h : H ≤ 1500) : qNd k H ≤ 1510 := by
  unfold qNd
  by_cases c1 : k = 1
  · rw [if_pos c1]; omega
  rw [if_neg c1]
  by_cases c2 : k = 2
  · rw [if_pos c2]; omega
  rw [if_neg c2]
  by_cases c3 : k = 3
  · rw [if_pos c3]; omega
  rw [if_neg c3]
  by_cases c4 : k = 4
  · rw [if_pos c4]; omega
  rw [if_neg c4]
  by_cases c5 : k = 5
  · rw [if_pos c5]; omega
  · rw [if_neg c5]; omega
theorem s_needs {w : zWd} {t k H : Nat} (ht : t < 8) (hk : k ≤ 5) (ek : w 83 t = nI k) (hH : H ≤ 1500) (eH : w 86 t = nI H) : mX8_needs 82 (nI t) w = some (nI (qNd k H), w) := by
  have hs := nIs (a := H) (b := 20) (by omega) (by omega)
  unfold mX8_needs mX8_needs_53 qNd
  have d2 : nI H / nI 2 = nI (H / 2) := pk_div (by omega) (by decide) (by decide)
  by_cases c : 20 < H
  · have e20 : nI H - nI 20 = nI (H - 20) := pk_sub (by omega)
    rcases (show k = 0 ∨ k = 1 ∨ k = 2 ∨ k = 3 ∨ k = 4 ∨ k = 5 by omega) with rfl | rfl | rfl | rfl | rfl | rfl <;> simp (disch := (first | omega | (simp (disch := omega) only [zu1, zu2, zu3, nIi, ek, eH, nIe, d2, e20]; omega))) only [if_true, if_false, zE10, zE00, zOkN, Nat.reduceAdd, Nat.reduceMul, zcl_s, zif01, zbn_e, nIi, nI_clamp, nI_add, nI_1, pk_mul, zgi, zlt, zle, Int32.zero_add, Int32.add_zero, C0, C1, G0, G1, Nat.zero_add, Nat.add_zero, l2, l3, l4, l5, l6, l7, l8, l10, l11, l12, l20, l30, l48, l50, l60, l100, l120, l140, l152, l164, l176, l188, l200, l212, l224, l1604, l1880, l2000, l2008, l2016, l2024, l2032, l2040, l2048, l2210, l2240, l2270, l2300, l2330, l2390, l2450, l2510, l2570, l2590, l2620, l2650, l2660, l2700, T0, T1, Tm1, Tm99, Tm999, p_within, p_in, p_isCell, p_isOwner, p_isDay11, p_isDay12, p_isTap11, p_isTaker11, if_pos, if_neg, p_isTap12, p_isTaker12, p_isGone, zu1, zu2, zu3, nIe, Nat.reduceSub, ek, eH, nIe, d2, e20] <;> rfl
  · have e20 : H - 20 = 0 := by omega
    rcases (show k = 0 ∨ k = 1 ∨ k = 2 ∨ k = 3 ∨ k = 4 ∨ k = 5 by omega) with rfl | rfl | rfl | rfl | rfl | rfl <;> simp (disch := (first | omega | (simp (disch := omega) only [zu1, zu2, zu3, nIi, ek, eH, nIe, d2, hs, e20]; omega))) only [if_true, if_false, zE10, zE00, zOkN, Nat.reduceAdd, Nat.reduceMul, zcl_s, zif01, zbn_e, nIi, nI_clamp, nI_add, nI_1, pk_mul, zgi, zlt, zle, Int32.zero_add, Int32.add_zero, C0, C1, G0, G1, Nat.zero_add, Nat.add_zero, l2, l3, l4, l5, l6, l7, l8, l10, l11, l12, l20, l30, l48, l50, l60, l100, l120, l140, l152, l164, l176, l188, l200, l212, l224, l1604, l1880, l2000, l2008, l2016, l2024, l2032, l2040, l2048, l2210, l2240, l2270, l2300, l2330, l2390, l2450, l2510, l2570, l2590, l2620, l2650, l2660, l2700, T0, T1, Tm1, Tm99, Tm999, p_within, p_in, p_isCell, p_isOwner, p_isDay11, p_isDay12, p_isTap11, p_isTaker11, if_pos, if_neg, p_isTap12, p_isTaker12, p_isGone, zu1, zu2, zu3, nIe, Nat.reduceSub, ek, eH, nIe, d2, hs, e20] <;> rfl
theorem s_needs12 {w : zWd} {t k H : Nat} (ht : t < 8) (hk : k ≤ 5) (ek : w 232 (2000 + t) = nI k) (hH : H ≤ 1500) (eH : w 232 (2024 + t) = nI H) : mX12_needsOf 231 (nI t) w = some (nI (qNd k H), w) := by
  unfold mX12_needsOf mX12_needsOf_25 mX12_needsOf_77 qNd
  have d2 : nI H / nI 2 = nI (H / 2) := pk_div (by omega) (by decide) (by decide)
  have k0 : nI 0 + nI 5 = nI 5 := nI_add 0 5
  by_cases c : 20 ≤ H
  · have e20 : nI H - nI 20 = nI (H - 20) := pk_sub (by omega)
    rcases (show k = 0 ∨ k = 1 ∨ k = 2 ∨ k = 3 ∨ k = 4 ∨ k = 5 by omega) with rfl | rfl | rfl | rfl | rfl | rfl <;> simp (disch := (first | omega | (simp (disch := omega) only [zu1, zu2, zu3, nIi, ek, eH, nIe, d2, e20]; omega))) only [if_true, if_false, zE10, zE00, zOkN, Nat.reduceAdd, Nat.reduceMul, zcl_s, zif01, zbn_e, nIi, nI_clamp, nI_add, nI_1, pk_mul, zgi, zlt, zle, Int32.zero_add, Int32.add_zero, C0, C1, G0, G1, Nat.zero_add, Nat.add_zero, l2, l3, l4, l5, l6, l7, l8, l10, l11, l12, l20, l30, l48, l50, l60, l100, l120, l140, l152, l164, l176, l188, l200, l212, l224, l1604, l1880, l2000, l2008, l2016, l2024, l2032, l2040, l2048, l2210, l2240, l2270, l2300, l2330, l2390, l2450, l2510, l2570, l2590, l2620, l2650, l2660, l2700, T0, T1, Tm1, Tm99, Tm999, p_within, p_in, p_isCell, p_isOwner, p_isDay11, p_isDay12, p_isTap11, p_isTaker11, if_pos, if_neg, p_isTap12, p_isTaker12, p_isGone, zu1, zu2, zu3, nIe, Nat.reduceSub, ek, eH, nIe, d2, e20] <;> rfl
  · have e20 : H - 20 = 0 := by omega
    rcases (show k = 0 ∨ k = 1 ∨ k = 2 ∨ k = 3 ∨ k = 4 ∨ k = 5 by omega) with rfl | rfl | rfl | rfl | rfl | rfl <;> simp (disch := (first | omega | (simp (disch := omega) only [zu1, zu2, zu3, nIi, ek, eH, nIe, d2, e20]; omega))) only [if_true, if_false, zE10, zE00, zOkN, Nat.reduceAdd, Nat.reduceMul, zcl_s, zif01, zbn_e, nIi, nI_clamp, nI_add, nI_1, pk_mul, zgi, zlt, zle, Int32.zero_add, Int32.add_zero, C0, C1, G0, G1, Nat.zero_add, Nat.add_zero, l2, l3, l4, l5, l6, l7, l8, l10, l11, l12, l20, l30, l48, l50, l60, l100, l120, l140, l152, l164, l176, l188, l200, l212, l224, l1604, l1880, l2000, l2008, l2016, l2024, l2032, l2040, l2048, l2210, l2240, l2270, l2300, l2330, l2390, l2450, l2510, l2570, l2590, l2620, l2650, l2660, l2700, T0, T1, Tm1, Tm99, Tm999, p_within, p_in, p_isCell, p_isOwner, p_isDay11, p_isDay12, p_isTap11, p_isTaker11, if_pos, if_neg, p_isTap12, p_isTaker12, p_isGone, zu1, zu2, zu3, nIe, Nat.reduceSub, ek, eH, nIe, d2, e20] <;> rfl
/-- a taker's kind, gallons, heat, on both sides -/
theorem q_tk {n : Nat} {w : zWd} (h : qInv n w) {K : Nat} (hK : K ≤ 8) (e2 : w 232 3 = nI K) {t : Nat} (ht : t < K) : ∃ k G H : Nat, k ≤ 5 ∧ 1 ≤ G ∧ G ≤ 4 ∧ H ≤ 1500 ∧ w 83 t = nI k ∧ w 232 (2000 + t) = nI k ∧ w 85 t = nI G ∧ w 232 (2016 + t) = nI G ∧ w 86 t = nI H ∧ w 232 (2024 + t) = nI H := by
  obtain ⟨k, hk, k1, k2⟩ := qSc h 13 17 rfl rfl (by decide) (i := t) (by omega)
  obtain ⟨G, hG, g1, g2⟩ := qSc h 15 19 rfl rfl (by decide) (i := t) (by omega)
  obtain ⟨H, hH, h1, h2⟩ := qSc h 16 20 rfl rfl (by decide) (i := t) (by omega)
  simp only [Nat.zero_add, Nat.reduceAdd] at k1 g1 h1
  have hk5 : k ≤ 5 := hk
  have hG4 : G ≤ 4 := hG
  have hH5 : H ≤ 1500 := hH
  have := (qHd h.1) t (by omega) (by rw [e2, nIi (by omega)]; omega)
  rw [g2, nIi (by omega)] at this
  exact ⟨k, G, H, hk5, by omega, hG4, hH5, k1, k2, g1, g2, h1, h2⟩
theorem q_least (p : Nat → Prop) : ∀ n, (∃ j, j < n ∧ p j) → ∃ r, r < n ∧ p r ∧ ∀ j, j < r → ¬ p j
  | 0, ⟨j, h, _⟩ => by omega
  | n + 1, ⟨j, h1, h2⟩ => by
    rcases Classical.em (∃ j, j < n ∧ p j) with c | c
    · obtain ⟨r, g1, g2, g3⟩ := q_least p n c
      exact ⟨r, by omega, g2, g3⟩
    · refine ⟨n, by omega, ?_, fun j hj hp => c ⟨j, hj, hp⟩⟩
      by_cases e : j = n
      · rw [← e]; exact h2
      · exact absurd ⟨j, by omega, h2⟩ c
theorem qJ.form {u u' : zWd} (h : ∀ a, a ≠ 217 → a ≠ 218 → a ≠ 219 → u' a = u a) : qJ u u' := by
  refine ⟨fun k hk hj => h k ?_ ?_ ?_, fun j _ => by rw [h 231 (by decide) (by decide) (by decide)]⟩ <;> (rintro rfl; exact absurd hj (by decide))
theorem qJ.rows {u u' : zWd} (h : ∀ a, a ≠ 231 → a ≠ 240 → a ≠ 241 → u' a = u a) (g : ∀ j, j < 10 ∨ 14 < j → u' 231 j = u 231 j) : qJ u u' := by
  refine ⟨fun k hk hj => h k hk ?_ ?_, g⟩ <;> (rintro rfl; exact absurd hj (by decide))
theorem u_of {n : Nat} {w : zWd} (h : qInv n w) (a b : Int32) : qBoth n w (mX11_of 0 a b) (mX12_of 231 a b) := by
  obtain ⟨D, hD, d1, d2⟩ := q_today h
  obtain ⟨K, hK, e1, e2⟩ := q_takers h
  have e3 : (w 232 3).toInt = K := by rw [e2, nIi (by omega)]
  have i10 : ((1 : Int32) = 0) = False := by simp
  rcases zX a K K rfl (by omega) with ha | ⟨t, ht, rfl⟩
  · exact qBoth_id h (-1) (by unfold mX11_of mX11_of_16; simp (disch := (first | omega | (simp (disch := omega) only [zu1, zu2, zu3, nIi, e1]; omega))) only [if_true, if_false, zE10, zE00, zOkN, Nat.reduceAdd, Nat.reduceMul, zcl_s, zif01, zbn_e, nIi, nI_clamp, nI_add, nI_1, pk_mul, zgi, zlt, zle, Int32.zero_add, Int32.add_zero, C0, C1, G0, G1, Nat.zero_add, Nat.add_zero, l2, l3, l4, l5, l6, l7, l8, l10, l11, l12, l20, l30, l48, l50, l60, l100, l120, l140, l152, l164, l176, l188, l200, l212, l224, l1604, l1880, l2000, l2008, l2016, l2024, l2032, l2040, l2048, l2210, l2240, l2270, l2300, l2330, l2390, l2450, l2510, l2570, l2590, l2620, l2650, l2660, l2700, T0, T1, Tm1, Tm99, Tm999, p_within, p_in, p_isCell, p_isOwner, p_isDay11, p_isDay12, p_isTap11, p_isTaker11, if_pos, if_neg, p_isTap12, p_isTaker12, p_isGone, zu1, zu2, zu3, nIe, Nat.reduceSub, e1]) (by unfold mX12_of; simp (disch := (first | omega | (simp (disch := omega) only [zu1, zu2, zu3, nIi, e2]; omega))) only [if_true, if_false, zE10, zE00, zOkN, Nat.reduceAdd, Nat.reduceMul, zcl_s, zif01, zbn_e, nIi, nI_clamp, nI_add, nI_1, pk_mul, zgi, zlt, zle, Int32.zero_add, Int32.add_zero, C0, C1, G0, G1, Nat.zero_add, Nat.add_zero, l2, l3, l4, l5, l6, l7, l8, l10, l11, l12, l20, l30, l48, l50, l60, l100, l120, l140, l152, l164, l176, l188, l200, l212, l224, l1604, l1880, l2000, l2008, l2016, l2024, l2032, l2040, l2048, l2210, l2240, l2270, l2300, l2330, l2390, l2450, l2510, l2570, l2590, l2620, l2650, l2660, l2700, T0, T1, Tm1, Tm99, Tm999, p_within, p_in, p_isCell, p_isOwner, p_isDay11, p_isDay12, p_isTap11, p_isTaker11, if_pos, if_neg, p_isTap12, p_isTaker12, p_isGone, zu1, zu2, zu3, nIe, Nat.reduceSub, e2])
  rcases zX b 3 3 rfl (by omega) with hb | ⟨b, hb, rfl⟩
  · refine qBoth_id h (-1) (by unfold mX11_of mX11_of_16; simp (disch := (first | omega | (simp (disch := omega) only [zu1, zu2, zu3, nIi, e1, T3]; omega))) only [if_true, if_false, zE10, zE00, zOkN, Nat.reduceAdd, Nat.reduceMul, zcl_s, zif01, zbn_e, nIi, nI_clamp, nI_add, nI_1, pk_mul, zgi, zlt, zle, Int32.zero_add, Int32.add_zero, C0, C1, G0, G1, Nat.zero_add, Nat.add_zero, l2, l3, l4, l5, l6, l7, l8, l10, l11, l12, l20, l30, l48, l50, l60, l100, l120, l140, l152, l164, l176, l188, l200, l212, l224, l1604, l1880, l2000, l2008, l2016, l2024, l2032, l2040, l2048, l2210, l2240, l2270, l2300, l2330, l2390, l2450, l2510, l2570, l2590, l2620, l2650, l2660, l2700, T0, T1, Tm1, Tm99, Tm999, p_within, p_in, p_isCell, p_isOwner, p_isDay11, p_isDay12, p_isTap11, p_isTaker11, if_pos, if_neg, p_isTap12, p_isTaker12, p_isGone, zu1, zu2, zu3, nIe, Nat.reduceSub, e1, T3]) ?_
    unfold mX12_of
    have b0 : ¬ b = 0 := fun q => by rw [q] at hb; exact hb ⟨by decide, by decide⟩
    have b1 : ¬ b = 1 := fun q => by rw [q] at hb; exact hb ⟨by decide, by decide⟩
    have b2 : ¬ b = nI 2 := fun q => by rw [q] at hb; exact hb ⟨by decide, by decide⟩
    simp (disch := (first | omega | (simp (disch := omega) only [zu1, zu2, zu3, nIi, e2, b0, b1, b2]; omega))) only [if_true, if_false, zE10, zE00, zOkN, Nat.reduceAdd, Nat.reduceMul, zcl_s, zif01, zbn_e, nIi, nI_clamp, nI_add, nI_1, pk_mul, zgi, zlt, zle, Int32.zero_add, Int32.add_zero, C0, C1, G0, G1, Nat.zero_add, Nat.add_zero, l2, l3, l4, l5, l6, l7, l8, l10, l11, l12, l20, l30, l48, l50, l60, l100, l120, l140, l152, l164, l176, l188, l200, l212, l224, l1604, l1880, l2000, l2008, l2016, l2024, l2032, l2040, l2048, l2210, l2240, l2270, l2300, l2330, l2390, l2450, l2510, l2570, l2590, l2620, l2650, l2660, l2700, T0, T1, Tm1, Tm99, Tm999, p_within, p_in, p_isCell, p_isOwner, p_isDay11, p_isDay12, p_isTap11, p_isTaker11, if_pos, if_neg, p_isTap12, p_isTaker12, p_isGone, zu1, zu2, zu3, nIe, Nat.reduceSub, e2, b0, b1, b2]
  obtain ⟨k, G, H, hk5, _, _, hH5, k1, k2, _, _, h1, h2⟩ := q_tk h hK e2 ht
  obtain ⟨R, r1, r2, r3⟩ := q_row h (nI D) hK e1 e2
  rcases (show b = 0 ∨ b = 1 ∨ b = 2 by omega) with rfl | rfl | rfl
  · refine qBoth_id h (nI (qNd k H)) ?_ ?_
    · unfold mX11_of
      have z0 : ((nI 0 : Int32) = 0) = True := eq_true rfl
      simp (disch := (first | omega | (simp (disch := omega) only [zu1, zu2, zu3, nIi, e1, T3, z0, s_needs (w := w) (show t < 8 by omega) hk5 k1 hH5 h1]; omega))) only [if_true, if_false, zE10, zE00, zOkN, Nat.reduceAdd, Nat.reduceMul, zcl_s, zif01, zbn_e, nIi, nI_clamp, nI_add, nI_1, pk_mul, zgi, zlt, zle, Int32.zero_add, Int32.add_zero, C0, C1, G0, G1, Nat.zero_add, Nat.add_zero, l2, l3, l4, l5, l6, l7, l8, l10, l11, l12, l20, l30, l48, l50, l60, l100, l120, l140, l152, l164, l176, l188, l200, l212, l224, l1604, l1880, l2000, l2008, l2016, l2024, l2032, l2040, l2048, l2210, l2240, l2270, l2300, l2330, l2390, l2450, l2510, l2570, l2590, l2620, l2650, l2660, l2700, T0, T1, Tm1, Tm99, Tm999, p_within, p_in, p_isCell, p_isOwner, p_isDay11, p_isDay12, p_isTap11, p_isTaker11, if_pos, if_neg, p_isTap12, p_isTaker12, p_isGone, zu1, zu2, zu3, nIe, Nat.reduceSub, e1, T3, z0, s_needs (w := w) (show t < 8 by omega) hk5 k1 hH5 h1]
    · unfold mX12_of
      have z0 : ((nI 0 : Int32) = 0) = True := eq_true rfl
      simp (disch := (first | omega | (simp (disch := omega) only [zu1, zu2, zu3, nIi, e2, z0, s_needs12 (w := w) (show t < 8 by omega) hk5 k2 hH5 h2]; omega))) only [if_true, if_false, zE10, zE00, zOkN, Nat.reduceAdd, Nat.reduceMul, zcl_s, zif01, zbn_e, nIi, nI_clamp, nI_add, nI_1, pk_mul, zgi, zlt, zle, Int32.zero_add, Int32.add_zero, C0, C1, G0, G1, Nat.zero_add, Nat.add_zero, l2, l3, l4, l5, l6, l7, l8, l10, l11, l12, l20, l30, l48, l50, l60, l100, l120, l140, l152, l164, l176, l188, l200, l212, l224, l1604, l1880, l2000, l2008, l2016, l2024, l2032, l2040, l2048, l2210, l2240, l2270, l2300, l2330, l2390, l2450, l2510, l2570, l2590, l2620, l2650, l2660, l2700, T0, T1, Tm1, Tm99, Tm999, p_within, p_in, p_isCell, p_isOwner, p_isDay11, p_isDay12, p_isTap11, p_isTaker11, if_pos, if_neg, p_isTap12, p_isTaker12, p_isGone, zu1, zu2, zu3, nIe, Nat.reduceSub, e2, z0, s_needs12 (w := w) (show t < 8 by omega) hk5 k2 hH5 h2]
  · obtain ⟨u, f1, f2, f3, f4, f5⟩ := r1 w (qRc.rf w)
    obtain ⟨u', g1, g2⟩ := r2 t ht u (f2 232 (by decide) (by decide) (by decide))
    have z0 : ((nI 1 : Int32) = 0) = False := eq_false (by decide)
    have z1 : ((nI 1 : Int32) = 1) = True := eq_true rfl
    refine qBoth_j h (r := R t) (w1 := u) (w2 := u') ?_ ?_ ((qJ.form f2).s1 g2)
    · unfold mX11_of mX11_of_87
      simp (disch := (first | omega | (simp (disch := omega) only [zu1, zu2, zu3, nIi, e1, T3, z0, z1, d1, f1]; omega))) only [if_true, if_false, zE10, zE00, zOkN, Nat.reduceAdd, Nat.reduceMul, zcl_s, zif01, zbn_e, nIi, nI_clamp, nI_add, nI_1, pk_mul, zgi, zlt, zle, Int32.zero_add, Int32.add_zero, C0, C1, G0, G1, Nat.zero_add, Nat.add_zero, l2, l3, l4, l5, l6, l7, l8, l10, l11, l12, l20, l30, l48, l50, l60, l100, l120, l140, l152, l164, l176, l188, l200, l212, l224, l1604, l1880, l2000, l2008, l2016, l2024, l2032, l2040, l2048, l2210, l2240, l2270, l2300, l2330, l2390, l2450, l2510, l2570, l2590, l2620, l2650, l2660, l2700, T0, T1, Tm1, Tm99, Tm999, p_within, p_in, p_isCell, p_isOwner, p_isDay11, p_isDay12, p_isTap11, p_isTaker11, if_pos, if_neg, p_isTap12, p_isTaker12, p_isGone, zu1, zu2, zu3, nIe, Nat.reduceSub, e1, T3, z0, z1, d1, f1]
      rw [f4 t ht]
    · have m1 : mX12_isTaker 231 (nI t) u = some (1, u) := by
        have e232 := f2 232 (by decide) (by decide) (by decide)
        rw [p_isTaker12 _ _ (by rw [e232, e2, nIi (by omega)]; omega), if_pos]
        rw [e232, e2]
        exact zOk_nI (by rw [nIi (by omega)]; omega) (by omega)
      have e232 := f2 232 (by decide) (by decide) (by decide)
      unfold mX12_of
      rw [m1, zcl_s, if_neg (show ¬ (1 : Int32) = 0 by decide), if_neg (show ¬ (nI 1 : Int32) = 0 by decide), if_pos (show (nI 1 : Int32) = 1 from rfl)]
      simp (disch := (first | omega | (simp (disch := omega) only [zu1, zu2, zu3, nIi, e232, d2, g1]; omega))) only [if_true, if_false, zE10, zE00, zOkN, Nat.reduceAdd, Nat.reduceMul, zcl_s, zif01, zbn_e, nIi, nI_clamp, nI_add, nI_1, pk_mul, zgi, zlt, zle, Int32.zero_add, Int32.add_zero, C0, C1, G0, G1, Nat.zero_add, Nat.add_zero, l2, l3, l4, l5, l6, l7, l8, l10, l11, l12, l20, l30, l48, l50, l60, l100, l120, l140, l152, l164, l176, l188, l200, l212, l224, l1604, l1880, l2000, l2008, l2016, l2024, l2032, l2040, l2048, l2210, l2240, l2270, l2300, l2330, l2390, l2450, l2510, l2570, l2590, l2620, l2650, l2660, l2700, T0, T1, Tm1, Tm99, Tm999, p_within, p_in, p_isCell, p_isOwner, p_isDay11, p_isDay12, p_isTap11, p_isTaker11, if_pos, if_neg, p_isTap12, p_isTaker12, p_isGone, zu1, zu2, zu3, nIe, Nat.reduceSub, e232, d2, g1]
  · obtain ⟨u, f1, f2, f3, f4, f5⟩ := r1 w (qRc.rf w)
    have e232 := f2 232 (by decide) (by decide) (by decide)
    obtain ⟨u', g1, g2, g3, g4, g5⟩ := r3 u e232
    obtain ⟨r, hr, pr, lr⟩ := q_least (fun j => qLn R (w 87) K (w 219) j = nI t) K (qLn_t K (w 219) t ht)
    have hO : ∀ j, j < K → u' 240 j = qLn R (w 87) K (w 219) j := fun j hj => by rw [g5]; exact qLn_j K _ _ j hj
    refine qBoth_j h (r := nI r) (w1 := u) (w2 := u') ?_ ?_ ((qJ.form f2).tr (qJ.rows g2 g3))
    · unfold mX11_of mX11_of_87
      have z0 : ((nI 2 : Int32) = 0) = False := eq_false (by decide)
      have z1 : ((nI 2 : Int32) = 1) = False := eq_false (by decide)
      have pl : mX5_placeOf 217 (nI t) u = some (nI r, u) := by
        unfold mX5_placeOf mX5_placeOf_2
        refine zlp_to (P := fun i q => q = (nI i, u)) (n := r) (by unfold zFU; omega) ?_ rfl
        rintro i hi q rfl k8 hk8
        simp only [mX5_placeOf_2b]
        by_cases e : i = r
        · subst e
          have pr2 : u 219 i = nI t := by rw [f5]; exact pr
          simp (disch := (first | omega | (simp (disch := omega) only [zu1, zu2, zu3, nIi, f3, pr2]; omega))) only [if_true, if_false, zE10, zE00, zOkN, Nat.reduceAdd, Nat.reduceMul, zcl_s, zif01, zbn_e, nIi, nI_clamp, nI_add, nI_1, pk_mul, zgi, zlt, zle, Int32.zero_add, Int32.add_zero, C0, C1, G0, G1, Nat.zero_add, Nat.add_zero, l2, l3, l4, l5, l6, l7, l8, l10, l11, l12, l20, l30, l48, l50, l60, l100, l120, l140, l152, l164, l176, l188, l200, l212, l224, l1604, l1880, l2000, l2008, l2016, l2024, l2032, l2040, l2048, l2210, l2240, l2270, l2300, l2330, l2390, l2450, l2510, l2570, l2590, l2620, l2650, l2660, l2700, T0, T1, Tm1, Tm99, Tm999, p_within, p_in, p_isCell, p_isOwner, p_isDay11, p_isDay12, p_isTap11, p_isTaker11, if_pos, if_neg, p_isTap12, p_isTaker12, p_isGone, zu1, zu2, zu3, nIe, Nat.reduceSub, f3, pr2]
        · have ne : ¬ u 219 i = nI t := by rw [f5]; exact lr i (by omega)
          simp (disch := (first | omega | (simp (disch := omega) only [zu1, zu2, zu3, nIi, f3, ne]; omega))) only [if_true, if_false, zE10, zE00, zOkN, Nat.reduceAdd, Nat.reduceMul, zcl_s, zif01, zbn_e, nIi, nI_clamp, nI_add, nI_1, pk_mul, zgi, zlt, zle, Int32.zero_add, Int32.add_zero, C0, C1, G0, G1, Nat.zero_add, Nat.add_zero, l2, l3, l4, l5, l6, l7, l8, l10, l11, l12, l20, l30, l48, l50, l60, l100, l120, l140, l152, l164, l176, l188, l200, l212, l224, l1604, l1880, l2000, l2008, l2016, l2024, l2032, l2040, l2048, l2210, l2240, l2270, l2300, l2330, l2390, l2450, l2510, l2570, l2590, l2620, l2650, l2660, l2700, T0, T1, Tm1, Tm99, Tm999, p_within, p_in, p_isCell, p_isOwner, p_isDay11, p_isDay12, p_isTap11, p_isTaker11, if_pos, if_neg, p_isTap12, p_isTaker12, p_isGone, zu1, zu2, zu3, nIe, Nat.reduceSub, f3, ne]
          exact hk8 (by omega) _ rfl
      simp (disch := (first | omega | (simp (disch := omega) only [zu1, zu2, zu3, nIi, e1, T3, z0, z1, d1, f1, pl]; omega))) only [if_true, if_false, zE10, zE00, zOkN, Nat.reduceAdd, Nat.reduceMul, zcl_s, zif01, zbn_e, nIi, nI_clamp, nI_add, nI_1, pk_mul, zgi, zlt, zle, Int32.zero_add, Int32.add_zero, C0, C1, G0, G1, Nat.zero_add, Nat.add_zero, l2, l3, l4, l5, l6, l7, l8, l10, l11, l12, l20, l30, l48, l50, l60, l100, l120, l140, l152, l164, l176, l188, l200, l212, l224, l1604, l1880, l2000, l2008, l2016, l2024, l2032, l2040, l2048, l2210, l2240, l2270, l2300, l2330, l2390, l2450, l2510, l2570, l2590, l2620, l2650, l2660, l2700, T0, T1, Tm1, Tm99, Tm999, p_within, p_in, p_isCell, p_isOwner, p_isDay11, p_isDay12, p_isTap11, p_isTaker11, if_pos, if_neg, p_isTap12, p_isTaker12, p_isGone, zu1, zu2, zu3, nIe, Nat.reduceSub, e1, T3, z0, z1, d1, f1, pl]
    · have m1 : mX12_isTaker 231 (nI t) u = some (1, u) := by
        rw [p_isTaker12 _ _ (by rw [e232, e2, nIi (by omega)]; omega), if_pos]
        rw [e232, e2]
        exact zOk_nI (by rw [nIi (by omega)]; omega) (by omega)
      unfold mX12_of
      rw [m1, zcl_s, if_neg (show ¬ (1 : Int32) = 0 by decide), if_neg (show ¬ (nI 2 : Int32) = 0 by decide), if_neg (show ¬ (nI 2 : Int32) = 1 by decide), if_pos (show (nI 2 : Int32) = 2 from rfl)]
      simp (disch := (first | omega | (simp (disch := omega) only [zu1, zu2, zu3, nIi, e232, d2, g1]; omega))) only [if_true, if_false, zE10, zE00, zOkN, Nat.reduceAdd, Nat.reduceMul, zcl_s, zif01, zbn_e, nIi, nI_clamp, nI_add, nI_1, pk_mul, zgi, zlt, zle, Int32.zero_add, Int32.add_zero, C0, C1, G0, G1, Nat.zero_add, Nat.add_zero, l2, l3, l4, l5, l6, l7, l8, l10, l11, l12, l20, l30, l48, l50, l60, l100, l120, l140, l152, l164, l176, l188, l200, l212, l224, l1604, l1880, l2000, l2008, l2016, l2024, l2032, l2040, l2048, l2210, l2240, l2270, l2300, l2330, l2390, l2450, l2510, l2570, l2590, l2620, l2650, l2660, l2700, T0, T1, Tm1, Tm99, Tm999, p_within, p_in, p_isCell, p_isOwner, p_isDay11, p_isDay12, p_isTap11, p_isTaker11, if_pos, if_neg, p_isTap12, p_isTaker12, p_isGone, zu1, zu2, zu3, nIe, Nat.reduceSub, e232, d2, g1]
      unfold mX12_of_66
      refine zlp_to (P := fun i q => q = (nI i, u')) (n := r) (by unfold zFU; omega) ?_ rfl
      rintro i hi q rfl k8 hk8
      simp only [mX12_of_66b]
      by_cases e : i = r
      · subst e
        have pr2 : u' 240 i = nI t := by rw [hO i (by omega)]; exact pr
        simp (disch := (first | omega | (simp (disch := omega) only [zu1, zu2, zu3, nIi, pr2]; omega))) only [if_true, if_false, zE10, zE00, zOkN, Nat.reduceAdd, Nat.reduceMul, zcl_s, zif01, zbn_e, nIi, nI_clamp, nI_add, nI_1, pk_mul, zgi, zlt, zle, Int32.zero_add, Int32.add_zero, C0, C1, G0, G1, Nat.zero_add, Nat.add_zero, l2, l3, l4, l5, l6, l7, l8, l10, l11, l12, l20, l30, l48, l50, l60, l100, l120, l140, l152, l164, l176, l188, l200, l212, l224, l1604, l1880, l2000, l2008, l2016, l2024, l2032, l2040, l2048, l2210, l2240, l2270, l2300, l2330, l2390, l2450, l2510, l2570, l2590, l2620, l2650, l2660, l2700, T0, T1, Tm1, Tm99, Tm999, p_within, p_in, p_isCell, p_isOwner, p_isDay11, p_isDay12, p_isTap11, p_isTaker11, if_pos, if_neg, p_isTap12, p_isTaker12, p_isGone, zu1, zu2, zu3, nIe, Nat.reduceSub, pr2]
      · have ne : ¬ u' 240 i = nI t := by rw [hO i (by omega)]; exact lr i (by omega)
        simp (disch := (first | omega | (simp (disch := omega) only [zu1, zu2, zu3, nIi, ne]; omega))) only [if_true, if_false, zE10, zE00, zOkN, Nat.reduceAdd, Nat.reduceMul, zcl_s, zif01, zbn_e, nIi, nI_clamp, nI_add, nI_1, pk_mul, zgi, zlt, zle, Int32.zero_add, Int32.add_zero, C0, C1, G0, G1, Nat.zero_add, Nat.add_zero, l2, l3, l4, l5, l6, l7, l8, l10, l11, l12, l20, l30, l48, l50, l60, l100, l120, l140, l152, l164, l176, l188, l200, l212, l224, l1604, l1880, l2000, l2008, l2016, l2024, l2032, l2040, l2048, l2210, l2240, l2270, l2300, l2330, l2390, l2450, l2510, l2570, l2590, l2620, l2650, l2660, l2700, T0, T1, Tm1, Tm99, Tm999, p_within, p_in, p_isCell, p_isOwner, p_isDay11, p_isDay12, p_isTap11, p_isTaker11, if_pos, if_neg, p_isTap12, p_isTaker12, p_isGone, zu1, zu2, zu3, nIe, Nat.reduceSub, ne]
        exact hk8 (by omega) _ rfl
theorem u_row {n : Nat} {w : zWd} (h : qInv n w) (d b : Int32) : qBoth n w (mX11_row 0 d b) (mX12_row 231 d b) := by
  obtain ⟨K, hK, e1, e2⟩ := q_takers h
  have e3 : (w 232 3).toInt = K := by rw [e2, nIi (by omega)]
  have sm : (nI K - 1).toInt = (K : Int) - 1 := nIs (b := 1) (by omega) (by omega)
  rcases zX b K K rfl (by omega) with hb | ⟨i, hi, rfl⟩
  · exact qBoth_id h (-1) (by unfold mX11_row; simp (disch := (first | omega | (simp (disch := omega) only [zu1, zu2, zu3, nIi, e1]; omega))) only [if_true, if_false, zE10, zE00, zOkN, Nat.reduceAdd, Nat.reduceMul, zcl_s, zif01, zbn_e, nIi, nI_clamp, nI_add, nI_1, pk_mul, zgi, zlt, zle, Int32.zero_add, Int32.add_zero, C0, C1, G0, G1, Nat.zero_add, Nat.add_zero, l2, l3, l4, l5, l6, l7, l8, l10, l11, l12, l20, l30, l48, l50, l60, l100, l120, l140, l152, l164, l176, l188, l200, l212, l224, l1604, l1880, l2000, l2008, l2016, l2024, l2032, l2040, l2048, l2210, l2240, l2270, l2300, l2330, l2390, l2450, l2510, l2570, l2590, l2620, l2650, l2660, l2700, T0, T1, Tm1, Tm99, Tm999, p_within, p_in, p_isCell, p_isOwner, p_isDay11, p_isDay12, p_isTap11, p_isTaker11, if_pos, if_neg, p_isTap12, p_isTaker12, p_isGone, zu1, zu2, zu3, nIe, Nat.reduceSub, e1]) (by unfold mX12_row; simp (disch := (first | omega | (simp (disch := omega) only [zu1, zu2, zu3, nIi, e2, sm]; omega))) only [if_true, if_false, zE10, zE00, zOkN, Nat.reduceAdd, Nat.reduceMul, zcl_s, zif01, zbn_e, nIi, nI_clamp, nI_add, nI_1, pk_mul, zgi, zlt, zle, Int32.zero_add, Int32.add_zero, C0, C1, G0, G1, Nat.zero_add, Nat.add_zero, l2, l3, l4, l5, l6, l7, l8, l10, l11, l12, l20, l30, l48, l50, l60, l100, l120, l140, l152, l164, l176, l188, l200, l212, l224, l1604, l1880, l2000, l2008, l2016, l2024, l2032, l2040, l2048, l2210, l2240, l2270, l2300, l2330, l2390, l2450, l2510, l2570, l2590, l2620, l2650, l2660, l2700, T0, T1, Tm1, Tm99, Tm999, p_within, p_in, p_isCell, p_isOwner, p_isDay11, p_isDay12, p_isTap11, p_isTaker11, if_pos, if_neg, p_isTap12, p_isTaker12, p_isGone, zu1, zu2, zu3, nIe, Nat.reduceSub, e2, sm])
  by_cases hd : 0 ≤ d.toInt ∧ d.toInt < 401
  rotate_left
  · exact qBoth_id h (-2) (by unfold mX11_row; simp (disch := (first | omega | (simp (disch := omega) only [zu1, zu2, zu3, nIi, e1]; omega))) only [if_true, if_false, zE10, zE00, zOkN, Nat.reduceAdd, Nat.reduceMul, zcl_s, zif01, zbn_e, nIi, nI_clamp, nI_add, nI_1, pk_mul, zgi, zlt, zle, Int32.zero_add, Int32.add_zero, C0, C1, G0, G1, Nat.zero_add, Nat.add_zero, l2, l3, l4, l5, l6, l7, l8, l10, l11, l12, l20, l30, l48, l50, l60, l100, l120, l140, l152, l164, l176, l188, l200, l212, l224, l1604, l1880, l2000, l2008, l2016, l2024, l2032, l2040, l2048, l2210, l2240, l2270, l2300, l2330, l2390, l2450, l2510, l2570, l2590, l2620, l2650, l2660, l2700, T0, T1, Tm1, Tm99, Tm999, p_within, p_in, p_isCell, p_isOwner, p_isDay11, p_isDay12, p_isTap11, p_isTaker11, if_pos, if_neg, p_isTap12, p_isTaker12, p_isGone, zu1, zu2, zu3, nIe, Nat.reduceSub, e1]) (by unfold mX12_row; simp (disch := (first | omega | (simp (disch := omega) only [zu1, zu2, zu3, nIi, e2, sm]; omega))) only [if_true, if_false, zE10, zE00, zOkN, Nat.reduceAdd, Nat.reduceMul, zcl_s, zif01, zbn_e, nIi, nI_clamp, nI_add, nI_1, pk_mul, zgi, zlt, zle, Int32.zero_add, Int32.add_zero, C0, C1, G0, G1, Nat.zero_add, Nat.add_zero, l2, l3, l4, l5, l6, l7, l8, l10, l11, l12, l20, l30, l48, l50, l60, l100, l120, l140, l152, l164, l176, l188, l200, l212, l224, l1604, l1880, l2000, l2008, l2016, l2024, l2032, l2040, l2048, l2210, l2240, l2270, l2300, l2330, l2390, l2450, l2510, l2570, l2590, l2620, l2650, l2660, l2700, T0, T1, Tm1, Tm99, Tm999, p_within, p_in, p_isCell, p_isOwner, p_isDay11, p_isDay12, p_isTap11, p_isTaker11, if_pos, if_neg, p_isTap12, p_isTaker12, p_isGone, zu1, zu2, zu3, nIe, Nat.reduceSub, e2, sm])
  obtain ⟨R, r1, r2, r3⟩ := q_row h d hK e1 e2
  obtain ⟨u, f1, f2, f3, f4, f5⟩ := r1 w (qRc.rf w)
  have e232 := f2 232 (by decide) (by decide) (by decide)
  obtain ⟨u', g1, g2, g3, g4, g5⟩ := r3 u e232
  refine qBoth_j h (r := qLn R (w 87) K (w 219) i) (w1 := u) (w2 := u') ?_ ?_ ((qJ.form f2).tr (qJ.rows g2 g3))
  · unfold mX11_row
    simp (disch := (first | omega | (simp (disch := omega) only [zu1, zu2, zu3, nIi, e1, f1, f5]; omega))) only [if_true, if_false, zE10, zE00, zOkN, Nat.reduceAdd, Nat.reduceMul, zcl_s, zif01, zbn_e, nIi, nI_clamp, nI_add, nI_1, pk_mul, zgi, zlt, zle, Int32.zero_add, Int32.add_zero, C0, C1, G0, G1, Nat.zero_add, Nat.add_zero, l2, l3, l4, l5, l6, l7, l8, l10, l11, l12, l20, l30, l48, l50, l60, l100, l120, l140, l152, l164, l176, l188, l200, l212, l224, l1604, l1880, l2000, l2008, l2016, l2024, l2032, l2040, l2048, l2210, l2240, l2270, l2300, l2330, l2390, l2450, l2510, l2570, l2590, l2620, l2650, l2660, l2700, T0, T1, Tm1, Tm99, Tm999, p_within, p_in, p_isCell, p_isOwner, p_isDay11, p_isDay12, p_isTap11, p_isTaker11, if_pos, if_neg, p_isTap12, p_isTaker12, p_isGone, zu1, zu2, zu3, nIe, Nat.reduceSub, e1, f1, f5]
  · unfold mX12_row
    simp (disch := (first | omega | (simp (disch := omega) only [zu1, zu2, zu3, nIi, e232, e2, sm, g1, g5]; omega))) only [if_true, if_false, zE10, zE00, zOkN, Nat.reduceAdd, Nat.reduceMul, zcl_s, zif01, zbn_e, nIi, nI_clamp, nI_add, nI_1, pk_mul, zgi, zlt, zle, Int32.zero_add, Int32.add_zero, C0, C1, G0, G1, Nat.zero_add, Nat.add_zero, l2, l3, l4, l5, l6, l7, l8, l10, l11, l12, l20, l30, l48, l50, l60, l100, l120, l140, l152, l164, l176, l188, l200, l212, l224, l1604, l1880, l2000, l2008, l2016, l2024, l2032, l2040, l2048, l2210, l2240, l2270, l2300, l2330, l2390, l2450, l2510, l2570, l2590, l2620, l2650, l2660, l2700, T0, T1, Tm1, Tm99, Tm999, p_within, p_in, p_isCell, p_isOwner, p_isDay11, p_isDay12, p_isTap11, p_isTaker11, if_pos, if_neg, p_isTap12, p_isTaker12, p_isGone, zu1, zu2, zu3, nIe, Nat.reduceSub, e232, e2, sm, g1, g5]
    rw [qLn_j K _ _ i hi]
