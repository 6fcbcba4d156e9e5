theorem qFm.s1 {w w1 u : zWd} (h : qFm w w1) (g : qS1 w1 u) : qFm w u := ⟨fun a ha => (g.1 a (fun e => by rw [e] at ha; exact absurd ha (by decide))).trans (h.1 a ha), (g.2 3 (by decide)).trans h.2⟩
theorem qVw_s1 {w u : zWd} (g : qS1 w u) : qVw u 1 = qVw w 1 := by
  funext o
  unfold qVw
  by_cases ho : o < 102
  · rw [if_pos ho, if_pos ho, g.1 (1 + o) (by omega)]
  · rw [if_neg ho, if_neg ho]
theorem s_addTap {w : zWd} {T : Nat} (hT : T < 12) (e1 : w 2 1 = nI T) (a b c d : Int32) : mX0_addTap 2 a b c d w = some (nI T, zup (zup (zup (zup (zup (zup (zup w 4 T a) 5 T b) 6 T c) 7 T d) 8 T 0) 9 T 0) 2 1 (nI (T + 1))) := by
  unfold mX0_addTap
  simp (disch := (first | omega | (simp (disch := omega) only [zu1, zu2, zu3, nIi, e1, T12]; omega))) only [if_true, if_false, zE10, zE00, zOkN, Nat.reduceAdd, Nat.reduceMul, zcl_s, zif01, zbn_e, nIi, nI_clamp, nI_add, nI_1, pk_mul, zgi, zlt, zle, Int32.zero_add, Int32.add_zero, C0, C1, G0, G1, Nat.zero_add, Nat.add_zero, l2, l3, l4, l5, l6, l7, l8, l10, l11, l12, l20, l30, l48, l50, l60, l100, l120, l140, l152, l164, l176, l188, l200, l212, l224, l1604, l1880, l2000, l2008, l2016, l2024, l2032, l2040, l2048, l2210, l2240, l2270, l2300, l2330, l2390, l2450, l2510, l2570, l2590, l2620, l2650, l2660, l2700, T0, T1, Tm1, Tm99, Tm999, p_within, p_in, p_isCell, p_isOwner, p_isDay11, p_isDay12, p_isTap11, p_isTaker11, if_pos, if_neg, p_isTap12, p_isTaker12, p_isGone, zu1, zu2, zu3, nIe, Nat.reduceSub, e1, T12]
theorem u_tap2 {n : Nat} {w : zWd} (h : qInv n w) {k c : Nat} (hk : k < 3) (hc : c < 30) (nn dd : Int32) (hn : k ≠ 0 → 1 ≤ nn.toInt ∧ nn.toInt ≤ 500) : qBoth n w (mX11_tap_51 0 (nI k) (nI c) nn dd) (mX12_tap_47 231 (nI k) (nI c) nn dd) := by
  obtain ⟨D, hD, d1, d2⟩ := q_today h
  obtain ⟨T, hT, e1, e2⟩ := q_taps h
  have i10 : ((1 : Int32) = 0) = False := by simp
  have hz : (nI k = 0) = (k = 0) := by rw [show (0 : Int32) = nI 0 from rfl, nIe (by omega) (by omega)]
  have kz : k ≠ 0 → ¬ (nI k = 0) := fun q z => by rw [hz] at z; exact q z
  have kp : k = 0 → nI k = 0 := fun q => by rw [q]; rfl
  have h5 : ∀ i, i < T → w 5 i = w 232 (152 + i) := fun i hi => by
    have := (h.1.2.2.1 i (by omega)).1 (by rw [e2, nIi (by omega)]; omega)
    rw [← this.2.1, qVw_at w (by decide)]
  have hh : (∃ i, i < T ∧ w 5 i = nI c) ↔ (∃ i, i < T ∧ w 232 (152 + i) = nI c) := ⟨fun ⟨i, g1, g2⟩ => ⟨i, g1, by rw [← h5 i g1]; exact g2⟩, fun ⟨i, g1, g2⟩ => ⟨i, g1, by rw [h5 i g1]; exact g2⟩⟩
  have t11 := s_hasTap11 hT e1 (nI c)
  have t12 : ∀ u : zWd, u 232 = w 232 → mX12_hasTap 231 (nI c) u = some (if ∃ i, i < T ∧ w 232 (152 + i) = nI c then 1 else 0, u) := fun u hu => by rw [← hu]; exact s_hasTap12 hT (by rw [hu]; exact e2) (nI c)
  by_cases hm : ∃ i, i < T ∧ w 232 (152 + i) = nI c
  · refine qBoth_id h (-3) ?_ ?_
    · unfold mX11_tap_51 mX11_tap_83
      simp only [Nat.reduceAdd]
      rw [t11, if_pos (hh.mpr hm), zcl_s, if_neg (by decide)]
    · unfold mX12_tap_47 mX12_tap_70
      rw [t12 w rfl, if_pos hm, zcl_s, if_neg (by decide)]
  rw [if_neg (fun q => hm (hh.mp q))] at t11
  simp only [if_neg hm] at t12
  obtain ⟨b, m1, m2⟩ := s_mayBe h (nI k) (nI c) dd
  by_cases hb : k ≠ 0 ∧ b = false
  · obtain ⟨k0, rfl⟩ := hb
    simp only [Bool.false_eq_true, if_false] at m1 m2
    refine qBoth_s1 h (r := -3) ?_ ?_
    · unfold mX11_tap_51 mX11_tap_83
      simp only [Nat.reduceAdd]
      rw [t11, zcl_s, if_pos rfl, if_neg (kz k0), m1 w (qRc.rf w), zcl_s, if_pos rfl]
    · obtain ⟨u', g1, g2⟩ := m2 w rfl
      refine ⟨u', ?_, g2⟩
      unfold mX12_tap_47 mX12_tap_70
      rw [t12 w rfl, zcl_s, if_pos rfl, if_neg (kz k0), g1, zcl_s, if_pos rfl]
  have c86 : mX11_tap_51 0 (nI k) (nI c) nn dd w = mX11_tap_86 0 (nI k) (nI c) nn w := by
    unfold mX11_tap_51
    simp only [Nat.reduceAdd]
    rw [t11, zcl_s, if_pos rfl]
    by_cases k0 : k = 0
    · rw [if_pos (kp k0)]
    · have : b = true := by cases b; exact absurd ⟨k0, rfl⟩ hb; rfl
      subst this
      rw [if_neg (kz k0), m1 w (qRc.rf w), zcl_s, if_pos rfl, if_neg (by decide)]
  have m73 : ∀ u, u 232 = w 232 → ∃ u', mX12_tap_47 231 (nI k) (nI c) nn dd u = mX12_tap_73 231 (nI k) (nI c) nn dd u' ∧ qS1 u u' := by
    intro u hu
    unfold mX12_tap_47
    rw [t12 u hu, zcl_s, if_pos rfl]
    by_cases k0 : k = 0
    · rw [if_pos (kp k0)]
      exact ⟨u, rfl, qS1.rf u⟩
    · have : b = true := by cases b; exact absurd ⟨k0, rfl⟩ hb; rfl
      subst this
      obtain ⟨u', g1, g2⟩ := m2 u hu
      rw [if_neg (kz k0), g1, zcl_s, if_pos rfl, if_neg (by decide)]
      exact ⟨u', rfl, g2⟩
  by_cases hT12 : T = 12
  · refine qBoth_s1 h (r := -4) ?_ ?_
    · rw [c86]
      unfold mX11_tap_86
      simp (disch := (first | omega | (simp (disch := omega) only [zu1, zu2, zu3, nIi, e1, T12]; omega))) only [if_true, if_false, zE10, zE00, zOkN, Nat.reduceAdd, Nat.reduceMul, zcl_s, zif01, zbn_e, nIi, nI_clamp, nI_add, nI_1, pk_mul, zgi, zlt, zle, Int32.zero_add, Int32.add_zero, C0, C1, G0, G1, Nat.zero_add, Nat.add_zero, l2, l3, l4, l5, l6, l7, l8, l10, l11, l12, l20, l30, l48, l50, l60, l100, l120, l140, l152, l164, l176, l188, l200, l212, l224, l1604, l1880, l2000, l2008, l2016, l2024, l2032, l2040, l2048, l2210, l2240, l2270, l2300, l2330, l2390, l2450, l2510, l2570, l2590, l2620, l2650, l2660, l2700, T0, T1, Tm1, Tm99, Tm999, p_within, p_in, p_isCell, p_isOwner, p_isDay11, p_isDay12, p_isTap11, p_isTaker11, if_pos, if_neg, p_isTap12, p_isTaker12, p_isGone, zu1, zu2, zu3, nIe, Nat.reduceSub, e1, T12]
    · obtain ⟨u', g1, g2⟩ := m73 w rfl
      refine ⟨u', ?_, g2⟩
      rw [g1]
      unfold mX12_tap_73
      have e232 := g2.1 232 (by decide)
      simp (disch := (first | omega | (simp (disch := omega) only [zu1, zu2, zu3, nIi, e232, e2, l12]; omega))) only [if_true, if_false, zE10, zE00, zOkN, Nat.reduceAdd, Nat.reduceMul, zcl_s, zif01, zbn_e, nIi, nI_clamp, nI_add, nI_1, pk_mul, zgi, zlt, zle, Int32.zero_add, Int32.add_zero, C0, C1, G0, G1, Nat.zero_add, Nat.add_zero, l2, l3, l4, l5, l6, l7, l8, l10, l11, l12, l20, l30, l48, l50, l60, l100, l120, l140, l152, l164, l176, l188, l200, l212, l224, l1604, l1880, l2000, l2008, l2016, l2024, l2032, l2040, l2048, l2210, l2240, l2270, l2300, l2330, l2390, l2450, l2510, l2570, l2590, l2620, l2650, l2660, l2700, T0, T1, Tm1, Tm99, Tm999, p_within, p_in, p_isCell, p_isOwner, p_isDay11, p_isDay12, p_isTap11, p_isTaker11, if_pos, if_neg, p_isTap12, p_isTaker12, p_isGone, zu1, zu2, zu3, nIe, Nat.reduceSub, e232, e2, l12]
  have hT2 : T < 12 := by omega
  let w1 : zWd := zup (zup (zup (zup (zup (zup (zup w 4 T (nI k)) 5 T (nI c)) 6 T nn) 7 T (nI D)) 8 T 0) 9 T 0) 2 1 (nI (T + 1))
  have f1 : mX11_tap_51 0 (nI k) (nI c) nn dd w = some (nI T, w1) := by
    rw [c86]
    unfold mX11_tap_86
    simp (disch := (first | omega | (simp (disch := omega) only [zu1, zu2, zu3, nIi, e1, T12, d1]; omega))) only [if_true, if_false, zE10, zE00, zOkN, Nat.reduceAdd, Nat.reduceMul, zcl_s, zif01, zbn_e, nIi, nI_clamp, nI_add, nI_1, pk_mul, zgi, zlt, zle, Int32.zero_add, Int32.add_zero, C0, C1, G0, G1, Nat.zero_add, Nat.add_zero, l2, l3, l4, l5, l6, l7, l8, l10, l11, l12, l20, l30, l48, l50, l60, l100, l120, l140, l152, l164, l176, l188, l200, l212, l224, l1604, l1880, l2000, l2008, l2016, l2024, l2032, l2040, l2048, l2210, l2240, l2270, l2300, l2330, l2390, l2450, l2510, l2570, l2590, l2620, l2650, l2660, l2700, T0, T1, Tm1, Tm99, Tm999, p_within, p_in, p_isCell, p_isOwner, p_isDay11, p_isDay12, p_isTap11, p_isTaker11, if_pos, if_neg, p_isTap12, p_isTaker12, p_isGone, zu1, zu2, zu3, nIe, Nat.reduceSub, e1, T12, d1]
    rw [s_addTap hT2 e1, zcl_s]
  have q1 : w1 232 = w 232 := by
    show zup (zup (zup (zup (zup (zup (zup w 4 T (nI k)) 5 T (nI c)) 6 T nn) 7 T (nI D)) 8 T 0) 9 T 0) 2 1 (nI (T + 1)) 232 = w 232
    simp (disch := omega) only [zpE]
  have qf : qFm w w1 := (((((((qFm.rf w).up _ _ (by decide) (by omega)).up _ _ (by decide) (by omega)).up _ _ (by decide) (by omega)).up _ _ (by decide) (by omega)).up _ _ (by decide) (by omega)).up _ _ (by decide) (by omega)).up _ _ (by decide) (by omega)
  have qv : qVw w1 1 = qupc (qupc (qupc (qupc (qupc (qupc (qupc (qVw w 1) 3 T (nI k)) 4 T (nI c)) 5 T nn) 6 T (nI D)) 7 T 0) 8 T 0) 1 1 (nI (T + 1)) := by
    show qVw (zup (zup (zup (zup (zup (zup (zup w 4 T (nI k)) 5 T (nI c)) 6 T nn) 7 T (nI D)) 8 T 0) 9 T 0) 2 1 (nI (T + 1))) 1 = _
    simp (disch := omega) only [qV1, qV3, Nat.reduceSub]
  clear_value w1
  obtain ⟨u', g1, g2⟩ := m73 w1 q1
  have q2 : u' 232 = w 232 := (g2.1 232 (by decide)).trans q1
  have f2 : mX12_tap_47 231 (nI k) (nI c) nn dd w1 = some (nI T, zup (zup (zup (zup (zup (zup (zup u' 232 (140 + T) (nI k)) 232 (152 + T) (nI c)) 232 (164 + T) nn) 232 (176 + T) dd) 232 (188 + T) 0) 232 (200 + T) (nI D)) 232 1 (nI (T + 1))) := by
    rw [g1]
    unfold mX12_tap_73
    have hT12' : ¬ (nI T : Int32) = nI 12 := fun q => hT12 ((nIe (by omega) (by omega)).mp q)
    simp (disch := (first | omega | (simp (disch := omega) only [zu1, zu2, zu3, nIi, q2, e2, l12, d2]; omega))) only [if_true, if_false, zE10, zE00, zOkN, Nat.reduceAdd, Nat.reduceMul, zcl_s, zif01, zbn_e, nIi, nI_clamp, nI_add, nI_1, pk_mul, zgi, zlt, zle, Int32.zero_add, Int32.add_zero, C0, C1, G0, G1, Nat.zero_add, Nat.add_zero, l2, l3, l4, l5, l6, l7, l8, l10, l11, l12, l20, l30, l48, l50, l60, l100, l120, l140, l152, l164, l176, l188, l200, l212, l224, l1604, l1880, l2000, l2008, l2016, l2024, l2032, l2040, l2048, l2210, l2240, l2270, l2300, l2330, l2390, l2450, l2510, l2570, l2590, l2620, l2650, l2660, l2700, T0, T1, Tm1, Tm99, Tm999, p_within, p_in, p_isCell, p_isOwner, p_isDay11, p_isDay12, p_isTap11, p_isTaker11, if_pos, if_neg, p_isTap12, p_isTaker12, p_isGone, zu1, zu2, zu3, nIe, Nat.reduceSub, q2, e2, l12, d2]
  refine qBoth_mk h f1 f2 ?_ ?_ ?_ ?_
  · exact (((((((qf.s1 g2).up _ _ (by decide) (by omega)).up _ _ (by decide) (by omega)).up _ _ (by decide) (by omega)).up _ _ (by decide) (by omega)).up _ _ (by decide) (by omega)).up _ _ (by decide) (by omega)).up _ _ (by decide) (by omega)
  · simp (disch := omega) only [qV1, qup_s]
    rw [qVw_s1 g2, qv, q2]
    exact r_tap h.1.k hT2 e2 d2 hD (by omega) (by omega) nn dd hn
  · simp (disch := omega) only [qup_s]
    rw [q2]
    exact (((((((qHd h.1).s_ (by omega)).s_ (by omega)).s_ (by omega)).s_ (by omega)).s_ (by omega)).s_ (by omega)).s_ (by omega)
  · simp (disch := omega) only [zu2]
    rw [q2]
    exact Int.le_refl _
theorem u_tap {n : Nat} {w : zWd} (h : qInv n w) (a b c d : Int32) : qBoth n w (mX11_tap 0 a b c d) (mX12_tap 231 a b c d) := by
  rcases zX a 3 3 rfl (by omega) with ha | ⟨k, hk, rfl⟩
  · refine qBoth_id h (-1) ?_ (by unfold mX12_tap mX12_tap_16; simp (disch := (first | omega | (simp (disch := omega) only [zu1, zu2, zu3, nIi, T2]; omega))) only [if_true, if_false, zE10, zE00, zOkN, Nat.reduceAdd, Nat.reduceMul, zcl_s, zif01, zbn_e, nIi, nI_clamp, nI_add, nI_1, pk_mul, zgi, zlt, zle, Int32.zero_add, Int32.add_zero, C0, C1, G0, G1, Nat.zero_add, Nat.add_zero, l2, l3, l4, l5, l6, l7, l8, l10, l11, l12, l20, l30, l48, l50, l60, l100, l120, l140, l152, l164, l176, l188, l200, l212, l224, l1604, l1880, l2000, l2008, l2016, l2024, l2032, l2040, l2048, l2210, l2240, l2270, l2300, l2330, l2390, l2450, l2510, l2570, l2590, l2620, l2650, l2660, l2700, T0, T1, Tm1, Tm99, Tm999, p_within, p_in, p_isCell, p_isOwner, p_isDay11, p_isDay12, p_isTap11, p_isTaker11, if_pos, if_neg, p_isTap12, p_isTaker12, p_isGone, zu1, zu2, zu3, nIe, Nat.reduceSub, T2])
    unfold mX11_tap mX11_tap_18
    by_cases c1 : a.toInt < 0
    · simp (disch := (first | omega | (simp (disch := omega) only [zu1, zu2, zu3, nIi]; omega))) only [if_true, if_false, zE10, zE00, zOkN, Nat.reduceAdd, Nat.reduceMul, zcl_s, zif01, zbn_e, nIi, nI_clamp, nI_add, nI_1, pk_mul, zgi, zlt, zle, Int32.zero_add, Int32.add_zero, C0, C1, G0, G1, Nat.zero_add, Nat.add_zero, l2, l3, l4, l5, l6, l7, l8, l10, l11, l12, l20, l30, l48, l50, l60, l100, l120, l140, l152, l164, l176, l188, l200, l212, l224, l1604, l1880, l2000, l2008, l2016, l2024, l2032, l2040, l2048, l2210, l2240, l2270, l2300, l2330, l2390, l2450, l2510, l2570, l2590, l2620, l2650, l2660, l2700, T0, T1, Tm1, Tm99, Tm999, p_within, p_in, p_isCell, p_isOwner, p_isDay11, p_isDay12, p_isTap11, p_isTaker11, if_pos, if_neg, p_isTap12, p_isTaker12, p_isGone, zu1, zu2, zu3, nIe, Nat.reduceSub]
    · simp (disch := (first | omega | (simp (disch := omega) only [zu1, zu2, zu3, nIi]; omega))) only [if_true, if_false, zE10, zE00, zOkN, Nat.reduceAdd, Nat.reduceMul, zcl_s, zif01, zbn_e, nIi, nI_clamp, nI_add, nI_1, pk_mul, zgi, zlt, zle, Int32.zero_add, Int32.add_zero, C0, C1, G0, G1, Nat.zero_add, Nat.add_zero, l2, l3, l4, l5, l6, l7, l8, l10, l11, l12, l20, l30, l48, l50, l60, l100, l120, l140, l152, l164, l176, l188, l200, l212, l224, l1604, l1880, l2000, l2008, l2016, l2024, l2032, l2040, l2048, l2210, l2240, l2270, l2300, l2330, l2390, l2450, l2510, l2570, l2590, l2620, l2650, l2660, l2700, T0, T1, Tm1, Tm99, Tm999, p_within, p_in, p_isCell, p_isOwner, p_isDay11, p_isDay12, p_isTap11, p_isTaker11, if_pos, if_neg, p_isTap12, p_isTaker12, p_isGone, zu1, zu2, zu3, nIe, Nat.reduceSub]
  rcases zX b 30 30 rfl (by omega) with hb | ⟨cl, hc, rfl⟩
  · exact qBoth_id h (-1) (by unfold mX11_tap mX11_tap_18; simp (disch := (first | omega | (simp (disch := omega) only [zu1, zu2, zu3, nIi, T30]; omega))) only [if_true, if_false, zE10, zE00, zOkN, Nat.reduceAdd, Nat.reduceMul, zcl_s, zif01, zbn_e, nIi, nI_clamp, nI_add, nI_1, pk_mul, zgi, zlt, zle, Int32.zero_add, Int32.add_zero, C0, C1, G0, G1, Nat.zero_add, Nat.add_zero, l2, l3, l4, l5, l6, l7, l8, l10, l11, l12, l20, l30, l48, l50, l60, l100, l120, l140, l152, l164, l176, l188, l200, l212, l224, l1604, l1880, l2000, l2008, l2016, l2024, l2032, l2040, l2048, l2210, l2240, l2270, l2300, l2330, l2390, l2450, l2510, l2570, l2590, l2620, l2650, l2660, l2700, T0, T1, Tm1, Tm99, Tm999, p_within, p_in, p_isCell, p_isOwner, p_isDay11, p_isDay12, p_isTap11, p_isTaker11, if_pos, if_neg, p_isTap12, p_isTaker12, p_isGone, zu1, zu2, zu3, nIe, Nat.reduceSub, T30]) (by unfold mX12_tap mX12_tap_16; simp (disch := (first | omega | (simp (disch := omega) only [zu1, zu2, zu3, nIi, T2]; omega))) only [if_true, if_false, zE10, zE00, zOkN, Nat.reduceAdd, Nat.reduceMul, zcl_s, zif01, zbn_e, nIi, nI_clamp, nI_add, nI_1, pk_mul, zgi, zlt, zle, Int32.zero_add, Int32.add_zero, C0, C1, G0, G1, Nat.zero_add, Nat.add_zero, l2, l3, l4, l5, l6, l7, l8, l10, l11, l12, l20, l30, l48, l50, l60, l100, l120, l140, l152, l164, l176, l188, l200, l212, l224, l1604, l1880, l2000, l2008, l2016, l2024, l2032, l2040, l2048, l2210, l2240, l2270, l2300, l2330, l2390, l2450, l2510, l2570, l2590, l2620, l2650, l2660, l2700, T0, T1, Tm1, Tm99, Tm999, p_within, p_in, p_isCell, p_isOwner, p_isDay11, p_isDay12, p_isTap11, p_isTaker11, if_pos, if_neg, p_isTap12, p_isTaker12, p_isGone, zu1, zu2, zu3, nIe, Nat.reduceSub, T2])
  have hz : (nI k = 0) = (k = 0) := by rw [show (0 : Int32) = nI 0 from rfl, nIe (by omega) (by omega)]
  by_cases hr : k ≠ 0 ∧ ¬ ((1 ≤ c.toInt ∧ c.toInt ≤ 500) ∧ (0 ≤ d.toInt ∧ d.toInt ≤ 99))
  · obtain ⟨k0, hr⟩ := hr
    refine qBoth_id h (-2) ?_ ?_
    · unfold mX11_tap mX11_tap_48
      by_cases c1 : c.toInt < 1
      · simp (disch := (first | omega | (simp (disch := omega) only [zu1, zu2, zu3, nIi, T30, hz]; omega))) only [if_true, if_false, zE10, zE00, zOkN, Nat.reduceAdd, Nat.reduceMul, zcl_s, zif01, zbn_e, nIi, nI_clamp, nI_add, nI_1, pk_mul, zgi, zlt, zle, Int32.zero_add, Int32.add_zero, C0, C1, G0, G1, Nat.zero_add, Nat.add_zero, l2, l3, l4, l5, l6, l7, l8, l10, l11, l12, l20, l30, l48, l50, l60, l100, l120, l140, l152, l164, l176, l188, l200, l212, l224, l1604, l1880, l2000, l2008, l2016, l2024, l2032, l2040, l2048, l2210, l2240, l2270, l2300, l2330, l2390, l2450, l2510, l2570, l2590, l2620, l2650, l2660, l2700, T0, T1, Tm1, Tm99, Tm999, p_within, p_in, p_isCell, p_isOwner, p_isDay11, p_isDay12, p_isTap11, p_isTaker11, if_pos, if_neg, p_isTap12, p_isTaker12, p_isGone, zu1, zu2, zu3, nIe, Nat.reduceSub, T30, hz]
      by_cases c2 : 500 < c.toInt
      · simp (disch := (first | omega | (simp (disch := omega) only [zu1, zu2, zu3, nIi, T30, hz, T500]; omega))) only [if_true, if_false, zE10, zE00, zOkN, Nat.reduceAdd, Nat.reduceMul, zcl_s, zif01, zbn_e, nIi, nI_clamp, nI_add, nI_1, pk_mul, zgi, zlt, zle, Int32.zero_add, Int32.add_zero, C0, C1, G0, G1, Nat.zero_add, Nat.add_zero, l2, l3, l4, l5, l6, l7, l8, l10, l11, l12, l20, l30, l48, l50, l60, l100, l120, l140, l152, l164, l176, l188, l200, l212, l224, l1604, l1880, l2000, l2008, l2016, l2024, l2032, l2040, l2048, l2210, l2240, l2270, l2300, l2330, l2390, l2450, l2510, l2570, l2590, l2620, l2650, l2660, l2700, T0, T1, Tm1, Tm99, Tm999, p_within, p_in, p_isCell, p_isOwner, p_isDay11, p_isDay12, p_isTap11, p_isTaker11, if_pos, if_neg, p_isTap12, p_isTaker12, p_isGone, zu1, zu2, zu3, nIe, Nat.reduceSub, T30, hz, T500]
      by_cases c3 : d.toInt < 0
      · simp (disch := (first | omega | (simp (disch := omega) only [zu1, zu2, zu3, nIi, T30, hz, T500]; omega))) only [if_true, if_false, zE10, zE00, zOkN, Nat.reduceAdd, Nat.reduceMul, zcl_s, zif01, zbn_e, nIi, nI_clamp, nI_add, nI_1, pk_mul, zgi, zlt, zle, Int32.zero_add, Int32.add_zero, C0, C1, G0, G1, Nat.zero_add, Nat.add_zero, l2, l3, l4, l5, l6, l7, l8, l10, l11, l12, l20, l30, l48, l50, l60, l100, l120, l140, l152, l164, l176, l188, l200, l212, l224, l1604, l1880, l2000, l2008, l2016, l2024, l2032, l2040, l2048, l2210, l2240, l2270, l2300, l2330, l2390, l2450, l2510, l2570, l2590, l2620, l2650, l2660, l2700, T0, T1, Tm1, Tm99, Tm999, p_within, p_in, p_isCell, p_isOwner, p_isDay11, p_isDay12, p_isTap11, p_isTaker11, if_pos, if_neg, p_isTap12, p_isTaker12, p_isGone, zu1, zu2, zu3, nIe, Nat.reduceSub, T30, hz, T500]
      · simp (disch := (first | omega | (simp (disch := omega) only [zu1, zu2, zu3, nIi, T30, hz, T500, T99]; omega))) only [if_true, if_false, zE10, zE00, zOkN, Nat.reduceAdd, Nat.reduceMul, zcl_s, zif01, zbn_e, nIi, nI_clamp, nI_add, nI_1, pk_mul, zgi, zlt, zle, Int32.zero_add, Int32.add_zero, C0, C1, G0, G1, Nat.zero_add, Nat.add_zero, l2, l3, l4, l5, l6, l7, l8, l10, l11, l12, l20, l30, l48, l50, l60, l100, l120, l140, l152, l164, l176, l188, l200, l212, l224, l1604, l1880, l2000, l2008, l2016, l2024, l2032, l2040, l2048, l2210, l2240, l2270, l2300, l2330, l2390, l2450, l2510, l2570, l2590, l2620, l2650, l2660, l2700, T0, T1, Tm1, Tm99, Tm999, p_within, p_in, p_isCell, p_isOwner, p_isDay11, p_isDay12, p_isTap11, p_isTaker11, if_pos, if_neg, p_isTap12, p_isTaker12, p_isGone, zu1, zu2, zu3, nIe, Nat.reduceSub, T30, hz, T500, T99]
    · unfold mX12_tap mX12_tap_44
      by_cases c1 : 1 ≤ c.toInt ∧ c.toInt ≤ 500
      · simp (disch := (first | omega | (simp (disch := omega) only [zu1, zu2, zu3, nIi, T2, hz, T500, T99]; omega))) only [if_true, if_false, zE10, zE00, zOkN, Nat.reduceAdd, Nat.reduceMul, zcl_s, zif01, zbn_e, nIi, nI_clamp, nI_add, nI_1, pk_mul, zgi, zlt, zle, Int32.zero_add, Int32.add_zero, C0, C1, G0, G1, Nat.zero_add, Nat.add_zero, l2, l3, l4, l5, l6, l7, l8, l10, l11, l12, l20, l30, l48, l50, l60, l100, l120, l140, l152, l164, l176, l188, l200, l212, l224, l1604, l1880, l2000, l2008, l2016, l2024, l2032, l2040, l2048, l2210, l2240, l2270, l2300, l2330, l2390, l2450, l2510, l2570, l2590, l2620, l2650, l2660, l2700, T0, T1, Tm1, Tm99, Tm999, p_within, p_in, p_isCell, p_isOwner, p_isDay11, p_isDay12, p_isTap11, p_isTaker11, if_pos, if_neg, p_isTap12, p_isTaker12, p_isGone, zu1, zu2, zu3, nIe, Nat.reduceSub, T2, hz, T500, T99]
      · simp (disch := (first | omega | (simp (disch := omega) only [zu1, zu2, zu3, nIi, T2, hz, T500]; omega))) only [if_true, if_false, zE10, zE00, zOkN, Nat.reduceAdd, Nat.reduceMul, zcl_s, zif01, zbn_e, nIi, nI_clamp, nI_add, nI_1, pk_mul, zgi, zlt, zle, Int32.zero_add, Int32.add_zero, C0, C1, G0, G1, Nat.zero_add, Nat.add_zero, l2, l3, l4, l5, l6, l7, l8, l10, l11, l12, l20, l30, l48, l50, l60, l100, l120, l140, l152, l164, l176, l188, l200, l212, l224, l1604, l1880, l2000, l2008, l2016, l2024, l2032, l2040, l2048, l2210, l2240, l2270, l2300, l2330, l2390, l2450, l2510, l2570, l2590, l2620, l2650, l2660, l2700, T0, T1, Tm1, Tm99, Tm999, p_within, p_in, p_isCell, p_isOwner, p_isDay11, p_isDay12, p_isTap11, p_isTaker11, if_pos, if_neg, p_isTap12, p_isTaker12, p_isGone, zu1, zu2, zu3, nIe, Nat.reduceSub, T2, hz, T500]
  have f1 : mX11_tap 0 (nI k) (nI cl) c d w = mX11_tap_51 0 (nI k) (nI cl) c d w := by
    unfold mX11_tap
    by_cases k0 : k = 0
    · simp (disch := (first | omega | (simp (disch := omega) only [zu1, zu2, zu3, nIi, T30, hz]; omega))) only [if_true, if_false, zE10, zE00, zOkN, Nat.reduceAdd, Nat.reduceMul, zcl_s, zif01, zbn_e, nIi, nI_clamp, nI_add, nI_1, pk_mul, zgi, zlt, zle, Int32.zero_add, Int32.add_zero, C0, C1, G0, G1, Nat.zero_add, Nat.add_zero, l2, l3, l4, l5, l6, l7, l8, l10, l11, l12, l20, l30, l48, l50, l60, l100, l120, l140, l152, l164, l176, l188, l200, l212, l224, l1604, l1880, l2000, l2008, l2016, l2024, l2032, l2040, l2048, l2210, l2240, l2270, l2300, l2330, l2390, l2450, l2510, l2570, l2590, l2620, l2650, l2660, l2700, T0, T1, Tm1, Tm99, Tm999, p_within, p_in, p_isCell, p_isOwner, p_isDay11, p_isDay12, p_isTap11, p_isTaker11, if_pos, if_neg, p_isTap12, p_isTaker12, p_isGone, zu1, zu2, zu3, nIe, Nat.reduceSub, T30, hz]
    · simp (disch := (first | omega | (simp (disch := omega) only [zu1, zu2, zu3, nIi, T30, hz, T500, T99]; omega))) only [if_true, if_false, zE10, zE00, zOkN, Nat.reduceAdd, Nat.reduceMul, zcl_s, zif01, zbn_e, nIi, nI_clamp, nI_add, nI_1, pk_mul, zgi, zlt, zle, Int32.zero_add, Int32.add_zero, C0, C1, G0, G1, Nat.zero_add, Nat.add_zero, l2, l3, l4, l5, l6, l7, l8, l10, l11, l12, l20, l30, l48, l50, l60, l100, l120, l140, l152, l164, l176, l188, l200, l212, l224, l1604, l1880, l2000, l2008, l2016, l2024, l2032, l2040, l2048, l2210, l2240, l2270, l2300, l2330, l2390, l2450, l2510, l2570, l2590, l2620, l2650, l2660, l2700, T0, T1, Tm1, Tm99, Tm999, p_within, p_in, p_isCell, p_isOwner, p_isDay11, p_isDay12, p_isTap11, p_isTaker11, if_pos, if_neg, p_isTap12, p_isTaker12, p_isGone, zu1, zu2, zu3, nIe, Nat.reduceSub, T30, hz, T500, T99]
  have f2 : ∀ u, mX12_tap 231 (nI k) (nI cl) c d u = mX12_tap_47 231 (nI k) (nI cl) c d u := by
    intro u
    unfold mX12_tap
    by_cases k0 : k = 0
    · simp (disch := (first | omega | (simp (disch := omega) only [zu1, zu2, zu3, nIi, T2, hz]; omega))) only [if_true, if_false, zE10, zE00, zOkN, Nat.reduceAdd, Nat.reduceMul, zcl_s, zif01, zbn_e, nIi, nI_clamp, nI_add, nI_1, pk_mul, zgi, zlt, zle, Int32.zero_add, Int32.add_zero, C0, C1, G0, G1, Nat.zero_add, Nat.add_zero, l2, l3, l4, l5, l6, l7, l8, l10, l11, l12, l20, l30, l48, l50, l60, l100, l120, l140, l152, l164, l176, l188, l200, l212, l224, l1604, l1880, l2000, l2008, l2016, l2024, l2032, l2040, l2048, l2210, l2240, l2270, l2300, l2330, l2390, l2450, l2510, l2570, l2590, l2620, l2650, l2660, l2700, T0, T1, Tm1, Tm99, Tm999, p_within, p_in, p_isCell, p_isOwner, p_isDay11, p_isDay12, p_isTap11, p_isTaker11, if_pos, if_neg, p_isTap12, p_isTaker12, p_isGone, zu1, zu2, zu3, nIe, Nat.reduceSub, T2, hz]
    · simp (disch := (first | omega | (simp (disch := omega) only [zu1, zu2, zu3, nIi, T2, hz, T500, T99]; omega))) only [if_true, if_false, zE10, zE00, zOkN, Nat.reduceAdd, Nat.reduceMul, zcl_s, zif01, zbn_e, nIi, nI_clamp, nI_add, nI_1, pk_mul, zgi, zlt, zle, Int32.zero_add, Int32.add_zero, C0, C1, G0, G1, Nat.zero_add, Nat.add_zero, l2, l3, l4, l5, l6, l7, l8, l10, l11, l12, l20, l30, l48, l50, l60, l100, l120, l140, l152, l164, l176, l188, l200, l212, l224, l1604, l1880, l2000, l2008, l2016, l2024, l2032, l2040, l2048, l2210, l2240, l2270, l2300, l2330, l2390, l2450, l2510, l2570, l2590, l2620, l2650, l2660, l2700, T0, T1, Tm1, Tm99, Tm999, p_within, p_in, p_isCell, p_isOwner, p_isDay11, p_isDay12, p_isTap11, p_isTaker11, if_pos, if_neg, p_isTap12, p_isTaker12, p_isGone, zu1, zu2, zu3, nIe, Nat.reduceSub, T2, hz, T500, T99]
  obtain ⟨r, w1, w2, g1, g2, g3⟩ := u_tap2 h hk hc c d (fun k0 => by
    by_cases q : 1 ≤ c.toInt ∧ c.toInt ≤ 500
    · exact q
    · exact absurd ⟨k0, fun z => q z.1⟩ hr)
  exact ⟨r, w1, w2, f1.trans g1, (f2 w1).trans g2, g3⟩
