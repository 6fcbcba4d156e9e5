theorem p_wentBy {w : zWd} {t F D : Nat} (ht : t < 12) (hF : F ≤ 400) (hD : D ≤ 400) (f1 : w 7 t = nI F) (d1 : w 1 0 = nI D) (d : Int32) : mX11_wentBy 0 (nI t) d w = some (if F ≤ d.toInt ∧ d.toInt < D then 1 else 0, w) := by
  unfold mX11_wentBy mX11_wentBy_31 mX11_wentBy_32
  by_cases h1 : d.toInt < F
  · simp (disch := (first | omega | (simp (disch := omega) only [zu1, zu2, zu3, nIi, f1, d1, zgd_t zB0]; omega))) only [if_true, if_false, zE10, zE00, zOkN, Nat.reduceAdd, Nat.reduceMul, zcl_s, zif01, zbn_e, nIi, nI_clamp, nI_add, nI_1, pk_mul, zgi, zlt, zle, Int32.zero_add, Int32.add_zero, C0, C1, G0, G1, Nat.zero_add, Nat.add_zero, l2, l3, l4, l5, l6, l7, l8, l10, l11, l12, l20, l30, l48, l50, l60, l100, l120, l140, l152, l164, l176, l188, l200, l212, l224, l1604, l1880, l2000, l2008, l2016, l2024, l2032, l2040, l2048, l2210, l2240, l2270, l2300, l2330, l2390, l2450, l2510, l2570, l2590, l2620, l2650, l2660, l2700, T0, T1, Tm1, Tm99, Tm999, p_within, p_in, p_isCell, p_isOwner, p_isDay11, p_isDay12, p_isTap11, p_isTaker11, if_pos, if_neg, p_isTap12, p_isTaker12, p_isGone, zu1, zu2, zu3, nIe, Nat.reduceSub, f1, d1, zgd_t zB0]
  by_cases h2 : D ≤ d.toInt
  · simp (disch := (first | omega | (simp (disch := omega) only [zu1, zu2, zu3, nIi, f1, d1, zgd_t zB0]; omega))) only [if_true, if_false, zE10, zE00, zOkN, Nat.reduceAdd, Nat.reduceMul, zcl_s, zif01, zbn_e, nIi, nI_clamp, nI_add, nI_1, pk_mul, zgi, zlt, zle, Int32.zero_add, Int32.add_zero, C0, C1, G0, G1, Nat.zero_add, Nat.add_zero, l2, l3, l4, l5, l6, l7, l8, l10, l11, l12, l20, l30, l48, l50, l60, l100, l120, l140, l152, l164, l176, l188, l200, l212, l224, l1604, l1880, l2000, l2008, l2016, l2024, l2032, l2040, l2048, l2210, l2240, l2270, l2300, l2330, l2390, l2450, l2510, l2570, l2590, l2620, l2650, l2660, l2700, T0, T1, Tm1, Tm99, Tm999, p_within, p_in, p_isCell, p_isOwner, p_isDay11, p_isDay12, p_isTap11, p_isTaker11, if_pos, if_neg, p_isTap12, p_isTaker12, p_isGone, zu1, zu2, zu3, nIe, Nat.reduceSub, f1, d1, zgd_t zB0]
  · simp (disch := (first | omega | (simp (disch := omega) only [zu1, zu2, zu3, nIi, f1, d1, zgd_t zB1]; omega))) only [if_true, if_false, zE10, zE00, zOkN, Nat.reduceAdd, Nat.reduceMul, zcl_s, zif01, zbn_e, nIi, nI_clamp, nI_add, nI_1, pk_mul, zgi, zlt, zle, Int32.zero_add, Int32.add_zero, C0, C1, G0, G1, Nat.zero_add, Nat.add_zero, l2, l3, l4, l5, l6, l7, l8, l10, l11, l12, l20, l30, l48, l50, l60, l100, l120, l140, l152, l164, l176, l188, l200, l212, l224, l1604, l1880, l2000, l2008, l2016, l2024, l2032, l2040, l2048, l2210, l2240, l2270, l2300, l2330, l2390, l2450, l2510, l2570, l2590, l2620, l2650, l2660, l2700, T0, T1, Tm1, Tm99, Tm999, p_within, p_in, p_isCell, p_isOwner, p_isDay11, p_isDay12, p_isTap11, p_isTaker11, if_pos, if_neg, p_isTap12, p_isTaker12, p_isGone, zu1, zu2, zu3, nIe, Nat.reduceSub, f1, d1, zgd_t zB1]
theorem s_past (w : zWd) {t d c : Nat} (ht : t < 12) (hd : d < 400) (hc : c < 4) : mX11_pastFlow 0 (nI t) (nI d) (nI c) w = some (w 205 ((d * 12 + t) * 4 + c), w) := by
  unfold mX11_pastFlow
  simp (disch := (first | omega | (simp (disch := omega) only [zu1, zu2, zu3, nIi]; omega))) only [if_true, if_false, zE10, zE00, zOkN, Nat.reduceAdd, Nat.reduceMul, zcl_s, zif01, zbn_e, nIi, nI_clamp, nI_add, nI_1, pk_mul, zgi, zlt, zle, Int32.zero_add, Int32.add_zero, C0, C1, G0, G1, Nat.zero_add, Nat.add_zero, l2, l3, l4, l5, l6, l7, l8, l10, l11, l12, l20, l30, l48, l50, l60, l100, l120, l140, l152, l164, l176, l188, l200, l212, l224, l1604, l1880, l2000, l2008, l2016, l2024, l2032, l2040, l2048, l2210, l2240, l2270, l2300, l2330, l2390, l2450, l2510, l2570, l2590, l2620, l2650, l2660, l2700, T0, T1, Tm1, Tm99, Tm999, p_within, p_in, p_isCell, p_isOwner, p_isDay11, p_isDay12, p_isTap11, p_isTaker11, if_pos, if_neg, p_isTap12, p_isTaker12, p_isGone, zu1, zu2, zu3, nIe, Nat.reduceSub]
theorem s_flowOf (w : zWd) {t d c : Nat} (ht : t < 12) (hd : d ≤ 400) (hc : c < 4) : mX12_flowOf 231 (nI t) (nI d) (nI c) w = some (w 232 (2700 + 1604 * t + 4 * d + c), w) := by
  unfold mX12_flowOf
  simp (disch := (first | omega | (simp (disch := omega) only [zu1, zu2, zu3, nIi]; omega))) only [if_true, if_false, zE10, zE00, zOkN, Nat.reduceAdd, Nat.reduceMul, zcl_s, zif01, zbn_e, nIi, nI_clamp, nI_add, nI_1, pk_mul, zgi, zlt, zle, Int32.zero_add, Int32.add_zero, C0, C1, G0, G1, Nat.zero_add, Nat.add_zero, l2, l3, l4, l5, l6, l7, l8, l10, l11, l12, l20, l30, l48, l50, l60, l100, l120, l140, l152, l164, l176, l188, l200, l212, l224, l1604, l1880, l2000, l2008, l2016, l2024, l2032, l2040, l2048, l2210, l2240, l2270, l2300, l2330, l2390, l2450, l2510, l2570, l2590, l2620, l2650, l2660, l2700, T0, T1, Tm1, Tm99, Tm999, p_within, p_in, p_isCell, p_isOwner, p_isDay11, p_isDay12, p_isTap11, p_isTaker11, if_pos, if_neg, p_isTap12, p_isTaker12, p_isGone, zu1, zu2, zu3, nIe, Nat.reduceSub]
def qAb (v : Int32) : Int32 := if 0 ≤ v.toInt then v else -v
theorem ab_c (v : Int32) : (if 0 ≤ v.toInt then v else 0 - v) = qAb v := by unfold qAb; rw [Int32.zero_sub]
theorem p_size (v : Int32) (w : zWd) : mX12_size v w = some (qAb v, w) := by
  unfold mX12_size mX12_size_10 qAb
  simp only [zle, T0]
  by_cases h : 0 ≤ v.toInt
  · rw [if_pos h, if_pos h]
  · rw [if_neg h, if_neg h]
theorem s_isOff {n : Nat} {w : zWd} (h : qInv n w) {a i T L : Nat} (hT : T ≤ 12) (e1 : w 2 1 = nI T) (e2 : w 232 1 = nI T) (haT : a < T) (hL : L ≤ 60) (l1 : w 94 0 = nI L) (l2 : w 232 5 = nI L) (hi : i < L) (e95 : w 95 i = nI a) : ∃ b : Bool, mX11_isOff 0 (nI i) w = some (if b then 1 else 0, w) ∧ ∀ u, qS1 w u → ∀ k14 v, ∃ u', qS1 w u' ∧ mX12_off_14b 231 (nI a) k14 v (nI i) u = k14 (if b then v + 1 else v, nI (i + 1), u') := by
  obtain ⟨D, hD, d1, d2⟩ := q_today h
  obtain ⟨F, hF, f1, f2⟩ := qSc h 9 14 rfl rfl (by decide) (i := a) (by omega)
  simp only [Nat.zero_add, Nat.reduceAdd] at f1
  have hF2 : F ≤ 400 := hF
  obtain ⟨DY, hDY, y1, y2⟩ := qSc h 25 29 rfl rfl (by decide) (i := i) (by omega)
  simp only [Nat.zero_add, Nat.reduceAdd] at y1
  have hDY2 : DY ≤ 400 := hDY
  have m95 := qTo h 24 rfl (by decide) (i := i) (by omega)
  have m97 := qTo h 26 rfl (by decide) (i := i) (by omega)
  have m98 := qTo h 27 rfl (by decide) (i := i) (by omega)
  simp only [Nat.zero_add, Nat.reduceAdd] at m95 m97 m98
  rw [e95] at m95
  have hwb := p_wentBy (w := w) (show a < 12 by omega) hF2 hD f1 d1 (nI DY)
  rw [nIi (by omega)] at hwb
  have i10 : ((1 : Int32) = 0) = False := by simp
  by_cases c : (F : Int) ≤ DY ∧ (DY : Int) < D
  rotate_left
  · rw [if_neg c] at hwb
    refine ⟨false, ?_, fun u hu k14 v => ⟨u, hu, ?_⟩⟩
    · unfold mX11_isOff mX11_isOff_43
      simp (disch := (first | omega | (simp (disch := omega) only [zu1, zu2, zu3, nIi, e95, y1, e1, hwb, zgd_t zB0]; omega))) only [if_true, if_false, zE10, zE00, zOkN, Nat.reduceAdd, Nat.reduceMul, zcl_s, zif01, zbn_e, nIi, nI_clamp, nI_add, nI_1, pk_mul, zgi, zlt, zle, Int32.zero_add, Int32.add_zero, C0, C1, G0, G1, Nat.zero_add, Nat.add_zero, l2, l3, l4, l5, l6, l7, l8, l10, l11, l12, l20, l30, l48, l50, l60, l100, l120, l140, l152, l164, l176, l188, l200, l212, l224, l1604, l1880, l2000, l2008, l2016, l2024, l2032, l2040, l2048, l2210, l2240, l2270, l2300, l2330, l2390, l2450, l2510, l2570, l2590, l2620, l2650, l2660, l2700, T0, T1, Tm1, Tm99, Tm999, p_within, p_in, p_isCell, p_isOwner, p_isDay11, p_isDay12, p_isTap11, p_isTaker11, if_pos, if_neg, p_isTap12, p_isTaker12, p_isGone, zu1, zu2, zu3, nIe, Nat.reduceSub, e95, y1, e1, hwb, zgd_t zB0]
      simp only [Bool.false_eq_true, if_false]
    · have e232 := hu.1 232 (by decide)
      unfold mX12_off_14b mX12_off_157
      simp only [Bool.false_eq_true, if_false]
      by_cases c2 : DY < D
      · simp (disch := (first | omega | (simp (disch := omega) only [zu1, zu2, zu3, nIi, e232, l2, y2, ← m95, d2, f2]; omega))) only [if_true, if_false, zE10, zE00, zOkN, Nat.reduceAdd, Nat.reduceMul, zcl_s, zif01, zbn_e, nIi, nI_clamp, nI_add, nI_1, pk_mul, zgi, zlt, zle, Int32.zero_add, Int32.add_zero, C0, C1, G0, G1, Nat.zero_add, Nat.add_zero, l2, l3, l4, l5, l6, l7, l8, l10, l11, l12, l20, l30, l48, l50, l60, l100, l120, l140, l152, l164, l176, l188, l200, l212, l224, l1604, l1880, l2000, l2008, l2016, l2024, l2032, l2040, l2048, l2210, l2240, l2270, l2300, l2330, l2390, l2450, l2510, l2570, l2590, l2620, l2650, l2660, l2700, T0, T1, Tm1, Tm99, Tm999, p_within, p_in, p_isCell, p_isOwner, p_isDay11, p_isDay12, p_isTap11, p_isTaker11, if_pos, if_neg, p_isTap12, p_isTaker12, p_isGone, zu1, zu2, zu3, nIe, Nat.reduceSub, e232, l2, y2, ← m95, d2, f2]
      · simp (disch := (first | omega | (simp (disch := omega) only [zu1, zu2, zu3, nIi, e232, l2, y2, ← m95, d2]; omega))) only [if_true, if_false, zE10, zE00, zOkN, Nat.reduceAdd, Nat.reduceMul, zcl_s, zif01, zbn_e, nIi, nI_clamp, nI_add, nI_1, pk_mul, zgi, zlt, zle, Int32.zero_add, Int32.add_zero, C0, C1, G0, G1, Nat.zero_add, Nat.add_zero, l2, l3, l4, l5, l6, l7, l8, l10, l11, l12, l20, l30, l48, l50, l60, l100, l120, l140, l152, l164, l176, l188, l200, l212, l224, l1604, l1880, l2000, l2008, l2016, l2024, l2032, l2040, l2048, l2210, l2240, l2270, l2300, l2330, l2390, l2450, l2510, l2570, l2590, l2620, l2650, l2660, l2700, T0, T1, Tm1, Tm99, Tm999, p_within, p_in, p_isCell, p_isOwner, p_isDay11, p_isDay12, p_isTap11, p_isTaker11, if_pos, if_neg, p_isTap12, p_isTaker12, p_isGone, zu1, zu2, zu3, nIe, Nat.reduceSub, e232, l2, y2, ← m95, d2]
  rw [if_pos c] at hwb
  obtain ⟨x, hx, g0, g⟩ := q_rules h (N := 4) (by omega) (nI DY)
  have hr := g0 w (qRc.rf w)
  have hq : ∀ cc, cc < 4 → w 205 ((DY * 12 + a) * 4 + cc) = w 232 (2700 + 1604 * a + 4 * DY + cc) := fun cc hc => (h.1.2.2.2.2.2.1 a DY cc (by omega) hc (by rw [e2, nIi (by omega)]; omega) (by rw [f2, nIi (by omega)]; omega) (by rw [d2, nIi (by omega)]; omega)).1
  have p0 := s_past w (show a < 12 by omega) (show DY < 400 by omega) (show 0 < 4 by omega)
  have p1 := s_past w (show a < 12 by omega) (show DY < 400 by omega) (show 1 < 4 by omega)
  rw [hq 0 (by omega)] at p0
  rw [hq 1 (by omega)] at p1
  have f0 : ∀ u : zWd, u 232 = w 232 → mX12_flowOf 231 (nI a) (nI DY) 0 u = some (w 232 (2700 + 1604 * a + 4 * DY + 0), u) := fun u hu => by rw [← hu]; exact s_flowOf u (by omega) (by omega) (show 0 < 4 by omega)
  have f1' : ∀ u : zWd, u 232 = w 232 → mX12_flowOf 231 (nI a) (nI DY) 1 u = some (w 232 (2700 + 1604 * a + 4 * DY + 1), u) := fun u hu => by rw [← hu]; exact s_flowOf u (by omega) (by omega) (show 1 < 4 by omega)
  rw [i0'] at p0
  rw [i1'] at p1
  generalize w 232 (2700 + 1604 * a + 4 * DY + 0) = g0 at p0 f0
  generalize w 232 (2700 + 1604 * a + 4 * DY + 1) = g1 at p1 f1'
  have hm : ∀ u, qS1 w u → ∃ u', qS1 w u' ∧ u' 232 = w 232 ∧ mX12_rule 231 (nI 4) (nI DY) u = some (nI x, u') := fun u hu => by
    obtain ⟨u', q1, q2⟩ := g u (hu.1 232 (by decide))
    exact ⟨u', hu.tr q2, (q2.1 232 (by decide)).trans (hu.1 232 (by decide)), q1⟩
  by_cases c4 : (x : Int) < (qAb (w 232 (2450 + i) - g0)).toInt
  · refine ⟨true, ?_, fun u hu k14 v => ?_⟩
    · unfold mX11_isOff mX11_isOff_112 mX11_isOff_117
      simp (disch := (first | omega | (simp (disch := omega) only [zu1, zu2, zu3, nIi, e95, y1, e1, hwb, hr, p0, p1, m97, m98, ab_c, zgd_t zB1, i10]; omega))) only [if_true, if_false, zE10, zE00, zOkN, Nat.reduceAdd, Nat.reduceMul, zcl_s, zif01, zbn_e, nIi, nI_clamp, nI_add, nI_1, pk_mul, zgi, zlt, zle, Int32.zero_add, Int32.add_zero, C0, C1, G0, G1, Nat.zero_add, Nat.add_zero, l2, l3, l4, l5, l6, l7, l8, l10, l11, l12, l20, l30, l48, l50, l60, l100, l120, l140, l152, l164, l176, l188, l200, l212, l224, l1604, l1880, l2000, l2008, l2016, l2024, l2032, l2040, l2048, l2210, l2240, l2270, l2300, l2330, l2390, l2450, l2510, l2570, l2590, l2620, l2650, l2660, l2700, T0, T1, Tm1, Tm99, Tm999, p_within, p_in, p_isCell, p_isOwner, p_isDay11, p_isDay12, p_isTap11, p_isTaker11, if_pos, if_neg, p_isTap12, p_isTaker12, p_isGone, zu1, zu2, zu3, nIe, Nat.reduceSub, e95, y1, e1, hwb, hr, p0, p1, m97, m98, ab_c, zgd_t zB1, i10]
    · obtain ⟨u', q1, q2, q3⟩ := hm u hu
      refine ⟨u', q1, ?_⟩
      have e232 := hu.1 232 (by decide)
      unfold mX12_off_14b mX12_off_137 mX12_off_142 mX12_off_155 mX12_off_157
      simp (disch := (first | omega | (simp (disch := omega) only [zu1, zu2, zu3, nIi, e232, q2, l2, y2, ← m95, d2, f2, q3, f0 u' q2, f1' u' q2, p_size, i10]; omega))) only [if_true, if_false, zE10, zE00, zOkN, Nat.reduceAdd, Nat.reduceMul, zcl_s, zif01, zbn_e, nIi, nI_clamp, nI_add, nI_1, pk_mul, zgi, zlt, zle, Int32.zero_add, Int32.add_zero, C0, C1, G0, G1, Nat.zero_add, Nat.add_zero, l2, l3, l4, l5, l6, l7, l8, l10, l11, l12, l20, l30, l48, l50, l60, l100, l120, l140, l152, l164, l176, l188, l200, l212, l224, l1604, l1880, l2000, l2008, l2016, l2024, l2032, l2040, l2048, l2210, l2240, l2270, l2300, l2330, l2390, l2450, l2510, l2570, l2590, l2620, l2650, l2660, l2700, T0, T1, Tm1, Tm99, Tm999, p_within, p_in, p_isCell, p_isOwner, p_isDay11, p_isDay12, p_isTap11, p_isTaker11, if_pos, if_neg, p_isTap12, p_isTaker12, p_isGone, zu1, zu2, zu3, nIe, Nat.reduceSub, e232, q2, l2, y2, ← m95, d2, f2, q3, f0 u' q2, f1' u' q2, p_size, i10]
  by_cases c5 : (x : Int) < (qAb (w 232 (2510 + i) - g1)).toInt
  · refine ⟨true, ?_, fun u hu k14 v => ?_⟩
    · unfold mX11_isOff mX11_isOff_112 mX11_isOff_117
      simp (disch := (first | omega | (simp (disch := omega) only [zu1, zu2, zu3, nIi, e95, y1, e1, hwb, hr, p0, p1, m97, m98, ab_c, zgd_t zB1, i10]; omega))) only [if_true, if_false, zE10, zE00, zOkN, Nat.reduceAdd, Nat.reduceMul, zcl_s, zif01, zbn_e, nIi, nI_clamp, nI_add, nI_1, pk_mul, zgi, zlt, zle, Int32.zero_add, Int32.add_zero, C0, C1, G0, G1, Nat.zero_add, Nat.add_zero, l2, l3, l4, l5, l6, l7, l8, l10, l11, l12, l20, l30, l48, l50, l60, l100, l120, l140, l152, l164, l176, l188, l200, l212, l224, l1604, l1880, l2000, l2008, l2016, l2024, l2032, l2040, l2048, l2210, l2240, l2270, l2300, l2330, l2390, l2450, l2510, l2570, l2590, l2620, l2650, l2660, l2700, T0, T1, Tm1, Tm99, Tm999, p_within, p_in, p_isCell, p_isOwner, p_isDay11, p_isDay12, p_isTap11, p_isTaker11, if_pos, if_neg, p_isTap12, p_isTaker12, p_isGone, zu1, zu2, zu3, nIe, Nat.reduceSub, e95, y1, e1, hwb, hr, p0, p1, m97, m98, ab_c, zgd_t zB1, i10]
    · obtain ⟨u', q1, q2, q3⟩ := hm u hu
      refine ⟨u', q1, ?_⟩
      have e232 := hu.1 232 (by decide)
      unfold mX12_off_14b mX12_off_137 mX12_off_142 mX12_off_155 mX12_off_157
      simp (disch := (first | omega | (simp (disch := omega) only [zu1, zu2, zu3, nIi, e232, q2, l2, y2, ← m95, d2, f2, q3, f0 u' q2, f1' u' q2, p_size, i10]; omega))) only [if_true, if_false, zE10, zE00, zOkN, Nat.reduceAdd, Nat.reduceMul, zcl_s, zif01, zbn_e, nIi, nI_clamp, nI_add, nI_1, pk_mul, zgi, zlt, zle, Int32.zero_add, Int32.add_zero, C0, C1, G0, G1, Nat.zero_add, Nat.add_zero, l2, l3, l4, l5, l6, l7, l8, l10, l11, l12, l20, l30, l48, l50, l60, l100, l120, l140, l152, l164, l176, l188, l200, l212, l224, l1604, l1880, l2000, l2008, l2016, l2024, l2032, l2040, l2048, l2210, l2240, l2270, l2300, l2330, l2390, l2450, l2510, l2570, l2590, l2620, l2650, l2660, l2700, T0, T1, Tm1, Tm99, Tm999, p_within, p_in, p_isCell, p_isOwner, p_isDay11, p_isDay12, p_isTap11, p_isTaker11, if_pos, if_neg, p_isTap12, p_isTaker12, p_isGone, zu1, zu2, zu3, nIe, Nat.reduceSub, e232, q2, l2, y2, ← m95, d2, f2, q3, f0 u' q2, f1' u' q2, p_size, i10]
  · refine ⟨false, ?_, fun u hu k14 v => ?_⟩
    · unfold mX11_isOff mX11_isOff_117
      simp (disch := (first | omega | (simp (disch := omega) only [zu1, zu2, zu3, nIi, e95, y1, e1, hwb, hr, p0, p1, m97, m98, ab_c, zgd_t zB0, i10]; omega))) only [if_true, if_false, zE10, zE00, zOkN, Nat.reduceAdd, Nat.reduceMul, zcl_s, zif01, zbn_e, nIi, nI_clamp, nI_add, nI_1, pk_mul, zgi, zlt, zle, Int32.zero_add, Int32.add_zero, C0, C1, G0, G1, Nat.zero_add, Nat.add_zero, l2, l3, l4, l5, l6, l7, l8, l10, l11, l12, l20, l30, l48, l50, l60, l100, l120, l140, l152, l164, l176, l188, l200, l212, l224, l1604, l1880, l2000, l2008, l2016, l2024, l2032, l2040, l2048, l2210, l2240, l2270, l2300, l2330, l2390, l2450, l2510, l2570, l2590, l2620, l2650, l2660, l2700, T0, T1, Tm1, Tm99, Tm999, p_within, p_in, p_isCell, p_isOwner, p_isDay11, p_isDay12, p_isTap11, p_isTaker11, if_pos, if_neg, p_isTap12, p_isTaker12, p_isGone, zu1, zu2, zu3, nIe, Nat.reduceSub, e95, y1, e1, hwb, hr, p0, p1, m97, m98, ab_c, zgd_t zB0, i10]
      simp only [Bool.false_eq_true, if_false]
    · obtain ⟨u', q1, q2, q3⟩ := hm u hu
      refine ⟨u', q1, ?_⟩
      have e232 := hu.1 232 (by decide)
      unfold mX12_off_14b mX12_off_142 mX12_off_155 mX12_off_157
      simp only [Bool.false_eq_true, if_false]
      simp (disch := (first | omega | (simp (disch := omega) only [zu1, zu2, zu3, nIi, e232, q2, l2, y2, ← m95, d2, f2, q3, f0 u' q2, f1' u' q2, p_size, i10]; omega))) only [if_true, if_false, zE10, zE00, zOkN, Nat.reduceAdd, Nat.reduceMul, zcl_s, zif01, zbn_e, nIi, nI_clamp, nI_add, nI_1, pk_mul, zgi, zlt, zle, Int32.zero_add, Int32.add_zero, C0, C1, G0, G1, Nat.zero_add, Nat.add_zero, l2, l3, l4, l5, l6, l7, l8, l10, l11, l12, l20, l30, l48, l50, l60, l100, l120, l140, l152, l164, l176, l188, l200, l212, l224, l1604, l1880, l2000, l2008, l2016, l2024, l2032, l2040, l2048, l2210, l2240, l2270, l2300, l2330, l2390, l2450, l2510, l2570, l2590, l2620, l2650, l2660, l2700, T0, T1, Tm1, Tm99, Tm999, p_within, p_in, p_isCell, p_isOwner, p_isDay11, p_isDay12, p_isTap11, p_isTaker11, if_pos, if_neg, p_isTap12, p_isTaker12, p_isGone, zu1, zu2, zu3, nIe, Nat.reduceSub, e232, q2, l2, y2, ← m95, d2, f2, q3, f0 u' q2, f1' u' q2, p_size, i10]
def qOb (w : zWd) (i : Nat) : Bool := match mX11_isOff 0 (nI i) w with
  | some (r, _) => decide (r = 1)
  | none => false
def qOc (w : zWd) (a : Int32) : Nat → Int32
  | 0 => 0
  | i + 1 => if w 95 i = a ∧ qOb w i = true then qOc w a i + 1 else qOc w a i
theorem u_off {n : Nat} {w : zWd} (h : qInv n w) (a : Int32) : qBoth n w (mX11_off 0 a) (mX12_off 231 a) := by
  obtain ⟨T, hT, e1, e2⟩ := q_taps h
  obtain ⟨L, hL, l1, l2⟩ := q_looks h
  have e3 : (w 232 1).toInt = T := by rw [e2, nIi (by omega)]
  rcases zX a T T rfl (by omega) with ha | ⟨a, ha, rfl⟩
  · exact qBoth_id h (-1) (by unfold mX11_off; simp (disch := (first | omega | (simp (disch := omega) only [zu1, zu2, zu3, nIi, e1]; omega))) only [if_true, if_false, zE10, zE00, zOkN, Nat.reduceAdd, Nat.reduceMul, zcl_s, zif01, zbn_e, nIi, nI_clamp, nI_add, nI_1, pk_mul, zgi, zlt, zle, Int32.zero_add, Int32.add_zero, C0, C1, G0, G1, Nat.zero_add, Nat.add_zero, l2, l3, l4, l5, l6, l7, l8, l10, l11, l12, l20, l30, l48, l50, l60, l100, l120, l140, l152, l164, l176, l188, l200, l212, l224, l1604, l1880, l2000, l2008, l2016, l2024, l2032, l2040, l2048, l2210, l2240, l2270, l2300, l2330, l2390, l2450, l2510, l2570, l2590, l2620, l2650, l2660, l2700, T0, T1, Tm1, Tm99, Tm999, p_within, p_in, p_isCell, p_isOwner, p_isDay11, p_isDay12, p_isTap11, p_isTaker11, if_pos, if_neg, p_isTap12, p_isTaker12, p_isGone, zu1, zu2, zu3, nIe, Nat.reduceSub, e1]) (by unfold mX12_off; simp (disch := (first | omega | (simp (disch := omega) only [zu1, zu2, zu3, nIi, e2]; omega))) only [if_true, if_false, zE10, zE00, zOkN, Nat.reduceAdd, Nat.reduceMul, zcl_s, zif01, zbn_e, nIi, nI_clamp, nI_add, nI_1, pk_mul, zgi, zlt, zle, Int32.zero_add, Int32.add_zero, C0, C1, G0, G1, Nat.zero_add, Nat.add_zero, l2, l3, l4, l5, l6, l7, l8, l10, l11, l12, l20, l30, l48, l50, l60, l100, l120, l140, l152, l164, l176, l188, l200, l212, l224, l1604, l1880, l2000, l2008, l2016, l2024, l2032, l2040, l2048, l2210, l2240, l2270, l2300, l2330, l2390, l2450, l2510, l2570, l2590, l2620, l2650, l2660, l2700, T0, T1, Tm1, Tm99, Tm999, p_within, p_in, p_isCell, p_isOwner, p_isDay11, p_isDay12, p_isTap11, p_isTaker11, if_pos, if_neg, p_isTap12, p_isTaker12, p_isGone, zu1, zu2, zu3, nIe, Nat.reduceSub, e2])
  have hob : ∀ i b, mX11_isOff 0 (nI i) w = some (if b then (1 : Int32) else 0, w) → qOb w i = b := by
    intro i b hb
    unfold qOb
    rw [hb]
    cases b <;> simp
  refine qBoth_s1 h (r := qOc w (nI a) L) ?_ ?_
  · unfold mX11_off
    simp (disch := (first | omega | (simp (disch := omega) only [zu1, zu2, zu3, nIi, e1]; omega))) only [if_true, if_false, zE10, zE00, zOkN, Nat.reduceAdd, Nat.reduceMul, zcl_s, zif01, zbn_e, nIi, nI_clamp, nI_add, nI_1, pk_mul, zgi, zlt, zle, Int32.zero_add, Int32.add_zero, C0, C1, G0, G1, Nat.zero_add, Nat.add_zero, l2, l3, l4, l5, l6, l7, l8, l10, l11, l12, l20, l30, l48, l50, l60, l100, l120, l140, l152, l164, l176, l188, l200, l212, l224, l1604, l1880, l2000, l2008, l2016, l2024, l2032, l2040, l2048, l2210, l2240, l2270, l2300, l2330, l2390, l2450, l2510, l2570, l2590, l2620, l2650, l2660, l2700, T0, T1, Tm1, Tm99, Tm999, p_within, p_in, p_isCell, p_isOwner, p_isDay11, p_isDay12, p_isTap11, p_isTaker11, if_pos, if_neg, p_isTap12, p_isTaker12, p_isGone, zu1, zu2, zu3, nIe, Nat.reduceSub, e1]
    unfold mX11_off_14
    refine zlp_to (P := fun i q => q = (qOc w (nI a) i, nI i, w)) (n := L) (by unfold zFU; omega) ?_ rfl
    rintro i hi q rfl k hk
    simp only [mX11_off_14b, mX11_off_55]
    by_cases e : i = L
    · subst e
      simp (disch := (first | omega | (simp (disch := omega) only [zu1, zu2, zu3, nIi, l1]; omega))) only [if_true, if_false, zE10, zE00, zOkN, Nat.reduceAdd, Nat.reduceMul, zcl_s, zif01, zbn_e, nIi, nI_clamp, nI_add, nI_1, pk_mul, zgi, zlt, zle, Int32.zero_add, Int32.add_zero, C0, C1, G0, G1, Nat.zero_add, Nat.add_zero, l2, l3, l4, l5, l6, l7, l8, l10, l11, l12, l20, l30, l48, l50, l60, l100, l120, l140, l152, l164, l176, l188, l200, l212, l224, l1604, l1880, l2000, l2008, l2016, l2024, l2032, l2040, l2048, l2210, l2240, l2270, l2300, l2330, l2390, l2450, l2510, l2570, l2590, l2620, l2650, l2660, l2700, T0, T1, Tm1, Tm99, Tm999, p_within, p_in, p_isCell, p_isOwner, p_isDay11, p_isDay12, p_isTap11, p_isTaker11, if_pos, if_neg, p_isTap12, p_isTaker12, p_isGone, zu1, zu2, zu3, nIe, Nat.reduceSub, l1]
    have hk2 : ∀ x, qOc w (nI a) (i + 1) = x → k (x, nI (i + 1), w) = some (qOc w (nI a) L, w) := fun x hx => hk (by omega) _ (by rw [← hx])
    by_cases e95 : w 95 i = nI a
    · obtain ⟨b, hb, _⟩ := s_isOff h hT e1 e2 ha hL l1 l2 (show i < L by omega) e95
      have hbb := hob i b hb
      cases b
      · simp only [Bool.false_eq_true, if_false] at hb
        simp (disch := (first | omega | (simp (disch := omega) only [zu1, zu2, zu3, nIi, l1, e95, hb]; omega))) only [if_true, if_false, zE10, zE00, zOkN, Nat.reduceAdd, Nat.reduceMul, zcl_s, zif01, zbn_e, nIi, nI_clamp, nI_add, nI_1, pk_mul, zgi, zlt, zle, Int32.zero_add, Int32.add_zero, C0, C1, G0, G1, Nat.zero_add, Nat.add_zero, l2, l3, l4, l5, l6, l7, l8, l10, l11, l12, l20, l30, l48, l50, l60, l100, l120, l140, l152, l164, l176, l188, l200, l212, l224, l1604, l1880, l2000, l2008, l2016, l2024, l2032, l2040, l2048, l2210, l2240, l2270, l2300, l2330, l2390, l2450, l2510, l2570, l2590, l2620, l2650, l2660, l2700, T0, T1, Tm1, Tm99, Tm999, p_within, p_in, p_isCell, p_isOwner, p_isDay11, p_isDay12, p_isTap11, p_isTaker11, if_pos, if_neg, p_isTap12, p_isTaker12, p_isGone, zu1, zu2, zu3, nIe, Nat.reduceSub, l1, e95, hb]
        exact hk2 _ (if_neg (fun q => by rw [hbb] at q; exact absurd q.2 (by decide)))
      · simp only [if_true] at hb
        simp (disch := (first | omega | (simp (disch := omega) only [zu1, zu2, zu3, nIi, l1, e95, hb, show ((1 : Int32) = 0) = False by simp]; omega))) only [if_true, if_false, zE10, zE00, zOkN, Nat.reduceAdd, Nat.reduceMul, zcl_s, zif01, zbn_e, nIi, nI_clamp, nI_add, nI_1, pk_mul, zgi, zlt, zle, Int32.zero_add, Int32.add_zero, C0, C1, G0, G1, Nat.zero_add, Nat.add_zero, l2, l3, l4, l5, l6, l7, l8, l10, l11, l12, l20, l30, l48, l50, l60, l100, l120, l140, l152, l164, l176, l188, l200, l212, l224, l1604, l1880, l2000, l2008, l2016, l2024, l2032, l2040, l2048, l2210, l2240, l2270, l2300, l2330, l2390, l2450, l2510, l2570, l2590, l2620, l2650, l2660, l2700, T0, T1, Tm1, Tm99, Tm999, p_within, p_in, p_isCell, p_isOwner, p_isDay11, p_isDay12, p_isTap11, p_isTaker11, if_pos, if_neg, p_isTap12, p_isTaker12, p_isGone, zu1, zu2, zu3, nIe, Nat.reduceSub, l1, e95, hb, show ((1 : Int32) = 0) = False by simp]
        exact hk2 _ (if_pos ⟨e95, hbb⟩)
    · simp (disch := (first | omega | (simp (disch := omega) only [zu1, zu2, zu3, nIi, l1, e95]; omega))) only [if_true, if_false, zE10, zE00, zOkN, Nat.reduceAdd, Nat.reduceMul, zcl_s, zif01, zbn_e, nIi, nI_clamp, nI_add, nI_1, pk_mul, zgi, zlt, zle, Int32.zero_add, Int32.add_zero, C0, C1, G0, G1, Nat.zero_add, Nat.add_zero, l2, l3, l4, l5, l6, l7, l8, l10, l11, l12, l20, l30, l48, l50, l60, l100, l120, l140, l152, l164, l176, l188, l200, l212, l224, l1604, l1880, l2000, l2008, l2016, l2024, l2032, l2040, l2048, l2210, l2240, l2270, l2300, l2330, l2390, l2450, l2510, l2570, l2590, l2620, l2650, l2660, l2700, T0, T1, Tm1, Tm99, Tm999, p_within, p_in, p_isCell, p_isOwner, p_isDay11, p_isDay12, p_isTap11, p_isTaker11, if_pos, if_neg, p_isTap12, p_isTaker12, p_isGone, zu1, zu2, zu3, nIe, Nat.reduceSub, l1, e95]
      exact hk2 _ (if_neg (fun q => e95 q.1))
  · unfold mX12_off
    simp (disch := (first | omega | (simp (disch := omega) only [zu1, zu2, zu3, nIi, e2]; omega))) only [if_true, if_false, zE10, zE00, zOkN, Nat.reduceAdd, Nat.reduceMul, zcl_s, zif01, zbn_e, nIi, nI_clamp, nI_add, nI_1, pk_mul, zgi, zlt, zle, Int32.zero_add, Int32.add_zero, C0, C1, G0, G1, Nat.zero_add, Nat.add_zero, l2, l3, l4, l5, l6, l7, l8, l10, l11, l12, l20, l30, l48, l50, l60, l100, l120, l140, l152, l164, l176, l188, l200, l212, l224, l1604, l1880, l2000, l2008, l2016, l2024, l2032, l2040, l2048, l2210, l2240, l2270, l2300, l2330, l2390, l2450, l2510, l2570, l2590, l2620, l2650, l2660, l2700, T0, T1, Tm1, Tm99, Tm999, p_within, p_in, p_isCell, p_isOwner, p_isDay11, p_isDay12, p_isTap11, p_isTaker11, if_pos, if_neg, p_isTap12, p_isTaker12, p_isGone, zu1, zu2, zu3, nIe, Nat.reduceSub, e2]
    unfold mX12_off_14
    refine zlp_R (R := fun X => ∃ w', X = some (qOc w (nI a) L, w') ∧ qS1 w w') (P := fun i q => ∃ u, q = (qOc w (nI a) i, nI i, u) ∧ qS1 w u) (n := L) (by unfold zFU; omega) ?_ ⟨w, rfl, qS1.rf w⟩
    rintro i hi q ⟨u, rfl, hu⟩ k hk
    have e232 := hu.1 232 (by decide)
    by_cases e : i = L
    · subst e
      refine ⟨u, ?_, hu⟩
      simp only [mX12_off_14b]
      simp (disch := (first | omega | (simp (disch := omega) only [zu1, zu2, zu3, nIi, e232, l2]; omega))) only [if_true, if_false, zE10, zE00, zOkN, Nat.reduceAdd, Nat.reduceMul, zcl_s, zif01, zbn_e, nIi, nI_clamp, nI_add, nI_1, pk_mul, zgi, zlt, zle, Int32.zero_add, Int32.add_zero, C0, C1, G0, G1, Nat.zero_add, Nat.add_zero, l2, l3, l4, l5, l6, l7, l8, l10, l11, l12, l20, l30, l48, l50, l60, l100, l120, l140, l152, l164, l176, l188, l200, l212, l224, l1604, l1880, l2000, l2008, l2016, l2024, l2032, l2040, l2048, l2210, l2240, l2270, l2300, l2330, l2390, l2450, l2510, l2570, l2590, l2620, l2650, l2660, l2700, T0, T1, Tm1, Tm99, Tm999, p_within, p_in, p_isCell, p_isOwner, p_isDay11, p_isDay12, p_isTap11, p_isTaker11, if_pos, if_neg, p_isTap12, p_isTaker12, p_isGone, zu1, zu2, zu3, nIe, Nat.reduceSub, e232, l2]
    have hk2 : ∀ x u', qOc w (nI a) (i + 1) = x → qS1 w u' → ∃ w', k (x, nI (i + 1), u') = some (qOc w (nI a) L, w') ∧ qS1 w w' := fun x u' hx hu' => hk (by omega) _ ⟨u', by rw [← hx], hu'⟩
    by_cases e95 : w 95 i = nI a
    · obtain ⟨b, hb, hm⟩ := s_isOff h hT e1 e2 ha hL l1 l2 (show i < L by omega) e95
      have hbb := hob i b hb
      obtain ⟨u', q1, q2⟩ := hm u hu k (qOc w (nI a) i)
      simp only
      rw [q2]
      refine hk2 _ u' ?_ q1
      show (if w 95 i = nI a ∧ qOb w i = true then _ else _) = _
      rw [hbb]
      simp only [e95, true_and]
    · have m95 := qTo h 24 rfl (by decide) (i := i) (by omega)
      simp only [Nat.zero_add, Nat.reduceAdd] at m95
      have e95' : ¬ w 232 (2330 + i) = nI a := by rw [← m95]; exact e95
      simp only [mX12_off_14b, mX12_off_157]
      obtain ⟨DY, hDY, y1, y2⟩ := qSc h 25 29 rfl rfl (by decide) (i := i) (by omega)
      simp (disch := (first | omega | (simp (disch := omega) only [zu1, zu2, zu3, nIi, e232, l2, e95']; omega))) only [if_true, if_false, zE10, zE00, zOkN, Nat.reduceAdd, Nat.reduceMul, zcl_s, zif01, zbn_e, nIi, nI_clamp, nI_add, nI_1, pk_mul, zgi, zlt, zle, Int32.zero_add, Int32.add_zero, C0, C1, G0, G1, Nat.zero_add, Nat.add_zero, l2, l3, l4, l5, l6, l7, l8, l10, l11, l12, l20, l30, l48, l50, l60, l100, l120, l140, l152, l164, l176, l188, l200, l212, l224, l1604, l1880, l2000, l2008, l2016, l2024, l2032, l2040, l2048, l2210, l2240, l2270, l2300, l2330, l2390, l2450, l2510, l2570, l2590, l2620, l2650, l2660, l2700, T0, T1, Tm1, Tm99, Tm999, p_within, p_in, p_isCell, p_isOwner, p_isDay11, p_isDay12, p_isTap11, p_isTaker11, if_pos, if_neg, p_isTap12, p_isTaker12, p_isGone, zu1, zu2, zu3, nIe, Nat.reduceSub, e232, l2, e95']
      exact hk2 _ u (if_neg (fun q => e95 q.1)) hu
