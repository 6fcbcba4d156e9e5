theorem qOr.congr {c c' : Nat → Nat → Int32} {s s' : Nat → Int32} (h : qOr c s) (h10 : (s 2).toInt ≤ 10) (hs : ∀ j, j = 2 ∨ (240 ≤ j ∧ j < 1880) → s' j = s j) (hc : ∀ o, 15 ≤ o → o ≤ 80 → c' o = c o) : qOr c' s' := by
  intro a ha
  rw [hs 2 (Or.inl rfl)] at ha
  have ha9 : a < 10 := by omega
  obtain ⟨g1, g2, g3, g4, n, hn, g5, g6, g7⟩ := h a ha
  unfold qOr1
  rw [hs (240 + a) (by omega), hs (1600 + a) (by omega), hs (252 + a) (by omega), hc (15 + 6 * a) (by omega) (by omega), hc (15 + 6 * a + 1) (by omega) (by omega), hc (15 + 6 * a + 2) (by omega) (by omega), hc (15 + 6 * a + 3) (by omega) (by omega), hc (15 + 6 * a + 4) (by omega) (by omega), hc (15 + 6 * a + 5) (by omega) (by omega)]
  refine ⟨g1, g2, g3, g4, n, hn, g5, fun i hi => ?_, fun k hk => ?_⟩
  · rw [hs (264 + 120 * a + i) (by omega)]; exact g6 i hi
  · have hk9 : k < 8 := by omega
    obtain ⟨f1, f2, f3, f4, f5⟩ := g7 k hk
    rw [hs (1612 + 8 * a + k) (by omega), hs (1700 + 8 * a + k) (by omega), hs (1790 + 8 * a + k) (by omega)]
    refine ⟨f1, f2, f3, f4, fun f6 => ?_⟩
    obtain ⟨p0, p', b, l, k1, k2, k3, k4⟩ := f5 f6
    refine ⟨p0, p', b, l, k1, k2, ?_, k4⟩
    rw [← k3]
    refine qE_congr (fun q => ?_) p0
    unfold qB
    by_cases hq : q < n
    · simp only [if_pos hq]; exact hs _ (by omega)
    · rw [if_neg hq, if_neg hq]
theorem yTb_ok : qBk.all (fun q => q == (0, 0, 0, 1) || q == (2, 0, 20, 120) || q == (8, 0, 224, 12) || (q.1 != 0 && q.1 != 2 && q.1 != 8 && q.1 != 9 && q.1 != 10 && decide (1 ≤ q.2.2.1) && (decide (q.2.2.1 + q.2.2.2 ≤ 20) || decide (140 ≤ q.2.2.1)) && (decide (q.2.2.1 + q.2.2.2 ≤ 224) || decide (236 ≤ q.2.2.1)) && decide (q.2.2.1 + q.2.2.2 ≤ 2700))) = true := by decide +kernel
theorem yRb_ok : qRb.all (fun q => q == (0, 1, 0, 400) || q == (20, 30, 0, 1500) || q == (50, 30, 0, 9999) || q == (80, 30, 0, 99) || q == (110, 30, 0, 999) || (decide (1 ≤ q.1) && (decide (q.1 + q.2.1 ≤ 20) || decide (140 ≤ q.1)) && (decide (q.1 + q.2.1 ≤ 224) || decide (236 ≤ q.1)) && decide (q.1 + q.2.1 ≤ 2700))) = true := by decide +kernel
/-- days went by: the two states side by side -/
theorem r_dawn {c c' : Nat → Nat → Int32} {s s' p p' C S : Nat → Int32} {T D E : Nat} (h : qRl c s p) (e1 : (s 1).toInt = T) (eD : (s 0).toInt = D) (hE : E ≤ 400) (hDE : D ≤ E) (hC : yRg C)
    (c0 : c' 0 0 = nI E) (s0 : s' 0 = nI E) (c2 : ∀ j, j < 120 → c' 2 j = C j) (s2 : ∀ j, j < 120 → s' (20 + j) = C j) (c8 : ∀ t, t < 12 → c' 8 t = S t) (s8 : ∀ t, t < T → s' (224 + t) = S t) (c8' : ∀ t, T ≤ t → S t = c 8 t) (co : ∀ o, o ≠ 0 → o ≠ 2 → o ≠ 8 → o ≠ 9 → o ≠ 10 → c' o = c o)
    (so : ∀ j, 1 ≤ j → j < 20 ∨ 140 ≤ j → j < 224 ∨ 224 + T ≤ j → j < 2700 → s' j = s j) (hp : ∀ t d q, t < T → q < 4 → d < D → p' ((d * 12 + t) * 4 + q) = p ((d * 12 + t) * 4 + q) ∧ s' (2700 + 1604 * t + 4 * d + q) = s (2700 + 1604 * t + 4 * d + q)) (hn : ∀ t d q, t < T → q < 4 → D ≤ d → d < E → p' ((d * 12 + t) * 4 + q) = s' (2700 + 1604 * t + 4 * d + q) ∧ 0 ≤ (s' (2700 + 1604 * t + 4 * d + 2)).toInt) : qRl c' s' p' := by
  obtain ⟨h1, h2, h3, h4, h5, h6, h7, h8⟩ := h
  have h10 := (qRg_at h2 2 rfl (i := 0) (by decide)).2
  have h12 := (qRg_at h2 1 rfl (i := 0) (by decide)).2
  simp only [Nat.add_zero] at h10 h12
  have hT : T ≤ 12 := by omega
  refine ⟨?_, ?_, ?_, ?_, ?_, ?_, ?_, ?_⟩
  · intro q hq i hi
    have := List.all_eq_true.mp yTb_ok q hq
    simp only [Bool.or_eq_true, Bool.and_eq_true, beq_iff_eq, bne_iff_ne, decide_eq_true_eq] at this
    rcases this with ((rfl | rfl) | rfl) | ⟨⟨⟨⟨⟨⟨⟨⟨a1, a2⟩, a3⟩, a4⟩, a5⟩, a6⟩, a7⟩, a8⟩, a9⟩
    · simp only at hi ⊢
      rw [show i = 0 by omega]
      exact c0.trans s0.symm
    · simp only at hi ⊢
      rw [Nat.zero_add, c2 i hi, s2 i hi]
    · simp only at hi ⊢
      rw [Nat.zero_add, c8 i hi]
      by_cases c : i < T
      · rw [s8 i c]
      · rw [so _ (by omega) (by omega) (by omega) (by omega), c8' i (by omega)]
        have := qTb_at h1 11 rfl (i := i) hi
        rwa [Nat.zero_add] at this
    · rw [co q.1 a1 a2 a3 a4 a5, so _ (by omega) (by omega) (by omega) (by omega)]
      exact h1 q hq i hi
  · intro q hq i hi
    have := List.all_eq_true.mp yRb_ok q hq
    simp only [Bool.or_eq_true, Bool.and_eq_true, beq_iff_eq, decide_eq_true_eq] at this
    rcases this with ((((rfl | rfl) | rfl) | rfl) | rfl) | ⟨⟨⟨a1, a2⟩, a3⟩, a4⟩
    · simp only at hi ⊢
      rw [show i = 0 by omega, Nat.add_zero, s0, nIi (by omega)]
      omega
    · simp only at hi ⊢
      rw [s2 i (by omega)]; exact (hC i hi).1
    · simp only at hi ⊢
      rw [show 50 + i = 20 + (30 + i) by omega, s2 _ (by omega)]; exact (hC i hi).2.1
    · simp only at hi ⊢
      rw [show 80 + i = 20 + (60 + i) by omega, s2 _ (by omega)]; exact (hC i hi).2.2.1
    · simp only at hi ⊢
      rw [show 110 + i = 20 + (90 + i) by omega, s2 _ (by omega)]; exact (hC i hi).2.2.2
    · rw [so _ (by omega) (by omega) (by omega) (by omega)]
      exact h2 q hq i hi
  · intro t ht
    obtain ⟨g1, g2⟩ := h3 t ht
    rw [so 1 (by omega) (by omega) (by omega) (by omega), so (140 + t) (by omega) (by omega) (by omega) (by omega), so (152 + t) (by omega) (by omega) (by omega) (by omega), so (164 + t) (by omega) (by omega) (by omega) (by omega), so (188 + t) (by omega) (by omega) (by omega) (by omega), so (212 + t) (by omega) (by omega) (by omega) (by omega), co 3 (by decide) (by decide) (by decide) (by decide) (by decide), co 4 (by decide) (by decide) (by decide) (by decide) (by decide), co 5 (by decide) (by decide) (by decide) (by decide) (by decide), co 1 (by decide) (by decide) (by decide) (by decide) (by decide)]
    refine ⟨g1, fun g => ?_⟩
    rw [so (224 + t) (by omega) (by omega) (by omega) (by omega)]
    exact g2 g
  · refine ⟨?_, fun t ht => ?_⟩
    · rw [co 93 (by decide) (by decide) (by decide) (by decide) (by decide)]; exact h4.1
    · rw [co 93 (by decide) (by decide) (by decide) (by decide) (by decide), co 98 (by decide) (by decide) (by decide) (by decide) (by decide), so (2570 + t) (by omega) (by omega) (by omega) (by omega), so 1 (by omega) (by omega) (by omega) (by omega)]
      exact h4.2 t ht
  · refine ⟨?_, fun t ht => ?_⟩
    · rw [co 93 (by decide) (by decide) (by decide) (by decide) (by decide)]; exact h5.1
    · rw [co 93 (by decide) (by decide) (by decide) (by decide) (by decide), so (2590 + t) (by omega) (by omega) (by omega) (by omega)]
      exact h5.2 t ht
  · intro t d q ht hq
    rw [so 1 (by omega) (by omega) (by omega) (by omega), so (200 + t) (by omega) (by omega) (by omega) (by omega), s0, nIi (by omega)]
    intro k1 k2 k3
    by_cases cd : d < D
    · rw [(hp t d q (by omega) hq cd).1, (hp t d q (by omega) hq cd).2, (hp t d 2 (by omega) (by omega) cd).2]
      exact h6 t d q ht hq k1 k2 (by omega)
    · exact hn t d q (by omega) hq (by omega) (by omega)
  · intro k hk
    rw [so 3 (by omega) (by omega) (by omega) (by omega), so (2016 + k) (by omega) (by omega) (by omega) (by omega)]
    exact h7 k hk
  · exact h8.congr h10 (fun j hj => so j (by omega) (by omega) (by omega) (by omega)) (fun o h1 h2 => co o (by omega) (by omega) (by omega) (by omega) (by omega))
theorem qPs.congr {s p p' : Nat → Int32} {D : Nat} (h : qPs p s) (h12 : (s 1).toInt ≤ 12) (hD : (s 0).toInt ≤ D) (hp : ∀ r, r < 48 * D → p' r = p r) : qPs p' s := by
  intro t d q ht hq k1 k2 k3
  rw [hp _ (by omega)]
  exact h t d q ht hq k1 k2 k3
theorem s_goes {kd tn sh : Nat → Int32} {cl : Nat → Nat} {T : Nat} {w : zWd} {C S ln : Nat → Int32} (hT : T ≤ 12) (hP : yTp kd tn cl T) (hR : yRg C) (e1 : w 232 1 = nI T) (k0 : ∀ t, t < T → w 232 (140 + t) = kd t) (k1 : ∀ t, t < T → w 232 (152 + t) = nI (cl t)) (k2 : ∀ t, t < T → w 232 (164 + t) = tn t) (k3 : ∀ t, t < T → w 232 (188 + t) = sh t) (k4 : ∀ t, t < T → w 232 (212 + t) = ln t) (hs : ∀ t, t < T → sh t = 0 ∨ sh t = 1) {u : zWd} {i E : Nat} (hE : E < 400) (eE : u 232 0 = nI E) (g0 : ∀ j, j < 20 ∨ 140 ≤ j → j < 224 → j ≠ 0 → u 232 j = w 232 j) (g1 : ∀ j, j < 120 → u 232 (20 + j) = ySc kd tn sh cl T C i j) (g7 : ∀ t, t < T → u 232 (224 + t) = ySs kd tn sh cl T C S i t) :
    ∃ u', mX12_goes 231 u = some ((), u') ∧ (∀ a, a ≠ 232 → a < 234 ∨ 239 < a → u' a = u a) ∧ u' 232 0 = nI (E + 1) ∧ (∀ j, 1 ≤ j → j < 20 ∨ 140 ≤ j → j < 224 ∨ 224 + T ≤ j → j < 2700 → u' 232 j = u 232 j) ∧ (∀ j, j < 120 → u' 232 (20 + j) = ySc kd tn sh cl T C (i + 1) j) ∧ (∀ t, t < T → u' 232 (224 + t) = ySs kd tn sh cl T C S (i + 1) t) ∧ (∀ t d q, t < 12 → d < E → q < 4 → u' 232 (2700 + 1604 * t + 4 * d + q) = u 232 (2700 + 1604 * t + 4 * d + q)) ∧ ∀ t q, t < T → q < 4 → u' 232 (2700 + 1604 * t + 4 * E + q) = ySf kd tn sh cl T C S ln i t q := by
  obtain ⟨u1, m1, m2, m3, m4, m5, m6⟩ := s_days12 (w := w) (C := C) (S := S) (ln := ln) (kd := kd) (tn := tn) (sh := sh) (cl := cl) hT hP hR e1 k0 k1 k2 k3 k4 hs g0 g1 g7
  unfold mX12_goes mX12_goes_6
  rw [m1, zcl_s]
  have eE1 : u1 232 0 = nI E := by rw [m3 0 (by omega) (by omega)]; exact eE
  have eT1 : u1 232 1 = nI T := by rw [m3 1 (by omega) (by omega), g0 1 (by omega) (by omega) (by omega)]; exact e1
  refine zlp_R (R := fun (Y : Option (Unit × zWd)) => ∃ u', Y = some ((), u') ∧ (∀ a, a ≠ 232 → a < 234 ∨ 239 < a → u' a = u a) ∧ u' 232 0 = nI (E + 1) ∧ (∀ j, 1 ≤ j → j < 20 ∨ 140 ≤ j → j < 224 ∨ 224 + T ≤ j → j < 2700 → u' 232 j = u 232 j) ∧ (∀ j, j < 120 → u' 232 (20 + j) = ySc kd tn sh cl T C (i + 1) j) ∧ (∀ t, t < T → u' 232 (224 + t) = ySs kd tn sh cl T C S (i + 1) t) ∧ (∀ t d q, t < 12 → d < E → q < 4 → u' 232 (2700 + 1604 * t + 4 * d + q) = u 232 (2700 + 1604 * t + 4 * d + q)) ∧ ∀ t q, t < T → q < 4 → u' 232 (2700 + 1604 * t + 4 * E + q) = ySf kd tn sh cl T C S ln i t q)
    (P := fun (m : Nat) (q : Int32 × zWd) => ∃ u', q = (nI m, u') ∧ (∀ a, a ≠ 232 → u' a = u1 a) ∧ (∀ j, j < 2700 → u' 232 j = u1 232 j) ∧ (∀ t d q, t < 12 → d < E → q < 4 → u' 232 (2700 + 1604 * t + 4 * d + q) = u1 232 (2700 + 1604 * t + 4 * d + q)) ∧ ∀ t q, t < m → q < 4 → u' 232 (2700 + 1604 * t + 4 * E + q) = ySf kd tn sh cl T C S ln i t q) (n := T) (by unfold zFU; omega) ?_ ⟨u1, rfl, fun _ _ => rfl, fun _ _ => rfl, fun _ _ _ _ _ _ => rfl, fun t q ht => absurd ht (by omega)⟩
  rintro m hm q ⟨u2, rfl, p1, p2, p3, p4⟩ k hk
  simp only [mX12_goes_6b]
  have eE2 : u2 232 0 = nI E := by rw [p2 0 (by omega)]; exact eE1
  have eT2 : u2 232 1 = nI T := by rw [p2 1 (by omega)]; exact eT1
  by_cases e : m = T
  · subst e
    refine ⟨zup u2 232 0 (nI (E + 1)), ?_, fun a h1 h2 => ?_, by rw [zu3], fun j h0 h1 h2 h3 => ?_, fun j hj => ?_, fun t ht => ?_, fun t d q ht hd hq => ?_, fun t q ht hq => ?_⟩
    · simp (disch := (first | omega | (simp (disch := omega) only [zu1, zu2, zu3, nIi, eT2, eE2]; omega))) only [if_true, if_false, zE10, zE00, zOkN, Nat.reduceAdd, Nat.reduceMul, zcl_s, zif01, zbn_e, nIi, nI_clamp, nI_add, nI_1, pk_mul, zgi, zlt, zle, Int32.zero_add, Int32.add_zero, C0, C1, G0, G1, Nat.zero_add, Nat.add_zero, l2, l3, l4, l5, l6, l7, l8, l10, l11, l12, l20, l30, l48, l50, l60, l100, l120, l140, l152, l164, l176, l188, l200, l212, l224, l1604, l1880, l2000, l2008, l2016, l2024, l2032, l2040, l2048, l2210, l2240, l2270, l2300, l2330, l2390, l2450, l2510, l2570, l2590, l2620, l2650, l2660, l2700, T0, T1, Tm1, Tm99, Tm999, p_within, p_in, p_isCell, p_isOwner, p_isDay11, p_isDay12, p_isTap11, p_isTaker11, if_pos, if_neg, p_isTap12, p_isTaker12, p_isGone, zu1, zu2, zu3, nIe, Nat.reduceSub, eT2, eE2]
    · rw [zpE _ _ _ h1, p1 a h1]; exact m2 a h1 h2
    · rw [zu2 _ _ (by omega), p2 j h3]; exact m3 j h1 h2
    · rw [zu2 _ _ (by omega), p2 _ (by omega)]; exact m4 j hj
    · rw [zu2 _ _ (by omega), p2 _ (by omega)]; exact m5 t ht
    · rw [zu2 _ _ (by omega), p3 t d q ht hd hq]; exact m3 _ (by omega) (by omega)
    · rw [zu2 _ _ (by omega)]; exact p4 t q ht hq
  have hm2 : m < T := by omega
  have f0 := m6 m 0 hm2 (by omega)
  have f1 := m6 m 1 hm2 (by omega)
  have f2 := m6 m 2 hm2 (by omega)
  have f3 := m6 m 3 hm2 (by omega)
  rw [← p1 _ (by omega)] at f0 f1 f2 f3
  simp only [Nat.reduceAdd, Nat.add_zero] at f0 f1 f2 f3
  have hk' := hk hm2 (nI (m + 1), zup (zup (zup (zup u2 232 (2700 + 1604 * m + 4 * E) (ySf kd tn sh cl T C S ln i m 0)) 232 (2700 + 1604 * m + 4 * E + 1) (ySf kd tn sh cl T C S ln i m 1)) 232 (2700 + 1604 * m + 4 * E + 2) (ySf kd tn sh cl T C S ln i m 2)) 232 (2700 + 1604 * m + 4 * E + 3) (ySf kd tn sh cl T C S ln i m 3)) ⟨_, rfl, fun a ha => ?_, fun j hj => ?_, fun t d q ht hd hq => ?_, fun t q ht hq => ?_⟩
  · simp (disch := (first | omega | (simp (disch := omega) only [zu1, zu2, zu3, nIi, eT2, eE2, f0, f1, f2, f3]; omega))) only [if_true, if_false, zE10, zE00, zOkN, Nat.reduceAdd, Nat.reduceMul, zcl_s, zif01, zbn_e, nIi, nI_clamp, nI_add, nI_1, pk_mul, zgi, zlt, zle, Int32.zero_add, Int32.add_zero, C0, C1, G0, G1, Nat.zero_add, Nat.add_zero, l2, l3, l4, l5, l6, l7, l8, l10, l11, l12, l20, l30, l48, l50, l60, l100, l120, l140, l152, l164, l176, l188, l200, l212, l224, l1604, l1880, l2000, l2008, l2016, l2024, l2032, l2040, l2048, l2210, l2240, l2270, l2300, l2330, l2390, l2450, l2510, l2570, l2590, l2620, l2650, l2660, l2700, T0, T1, Tm1, Tm99, Tm999, p_within, p_in, p_isCell, p_isOwner, p_isDay11, p_isDay12, p_isTap11, p_isTaker11, if_pos, if_neg, p_isTap12, p_isTaker12, p_isGone, zu1, zu2, zu3, nIe, Nat.reduceSub, eT2, eE2, f0, f1, f2, f3]
    exact hk'
  · rw [zpE _ _ _ ha, zpE _ _ _ ha, zpE _ _ _ ha, zpE _ _ _ ha]; exact p1 a ha
  · rw [zu2 _ _ (by omega), zu2 _ _ (by omega), zu2 _ _ (by omega), zu2 _ _ (by omega)]; exact p2 j hj
  · rw [zu2 _ _ (by omega), zu2 _ _ (by omega), zu2 _ _ (by omega), zu2 _ _ (by omega)]; exact p3 t d q ht hd hq
  · by_cases c : t = m
    · rw [c]
      rcases (show q = 0 ∨ q = 1 ∨ q = 2 ∨ q = 3 by omega) with rfl | rfl | rfl | rfl
      · rw [zu2 _ _ (by omega), zu2 _ _ (by omega), zu2 _ _ (by omega)]; exact zu3 _ _ _ _
      · rw [zu2 _ _ (by omega), zu2 _ _ (by omega), zu3]
      · rw [zu2 _ _ (by omega), zu3]
      · rw [zu3]
    · rw [zu2 _ _ (by omega), zu2 _ _ (by omega), zu2 _ _ (by omega), zu2 _ _ (by omega)]; exact p4 t q (by omega) hq
