theorem qBs_eq {w : zWd} {C Pr : Nat → Nat → Prop} {a k a' k' : Nat} (h : qBs w C Pr a k) (g : qBs w C Pr a' k') : a = a' ∧ k = k' := by
  have h1 := h.2.2 a' k' g.1 g.2.1
  have g1 := g.2.2 a k h.1 h.2.1
  omega
/-- both find the same clause -/
theorem q_rul {n : Nat} {w : zWd} (h : qInv n w) (N d : Int32) (t : Nat) (T T2 : Int32) (hN : N = 0 → t < 8 ∧ T = nI t ∧ T2 = nI t) : ((∀ u, qRc w u → mX3_ruling 14 N 82 T d u = some (-5, u)) ∧ ∀ u, u 232 = w 232 → ∃ w', mX12_ruling 231 N T2 d u = some (-1, w') ∧ qS1 u w') ∨ ∃ a k, a < 10 ∧ k < 8 ∧ qCd w N t d a k ∧ (∀ u, qRc w u → mX3_ruling 14 N 82 T d u = some (nI (100 * a + k), u)) ∧ ∀ u, u 232 = w 232 → ∃ w', mX12_ruling 231 N T2 d u = some (nI (8 * a + k), w') ∧ qS1 u w' := by
  obtain ⟨r, r1, r2⟩ := s_ruling11 h N d t T (fun q => ⟨(hN q).1, (hN q).2.1⟩) (qRc.rf w)
  rcases r2 with ⟨_, r2⟩ | ⟨a, k, ha, hk, hb, _⟩
  · refine Or.inl ⟨fun u hu => ?_, fun u hu => ?_⟩
    · obtain ⟨r', q1, q2⟩ := s_ruling11 h N d t T (fun q => ⟨(hN q).1, (hN q).2.1⟩) hu
      rcases q2 with ⟨rfl, _⟩ | ⟨a, k, _, _, b, _⟩
      · exact q1
      · exact absurd b.2.1 (r2 a k)
    · obtain ⟨v, w', g1, g2, g3⟩ := s_ruling12 h N d t T2 (fun q => ⟨(hN q).1, (hN q).2.2⟩) hu
      rcases g3 with ⟨rfl, _⟩ | ⟨a', k', _, _, b', _⟩
      · exact ⟨w', g1, g2⟩
      · exact absurd b'.2.1 (r2 a' k')
  · refine Or.inr ⟨a, k, ha, hk, hb.2.1, fun u hu => ?_, fun u hu => ?_⟩
    · obtain ⟨r', q1, q2⟩ := s_ruling11 h N d t T (fun q => ⟨(hN q).1, (hN q).2.1⟩) hu
      rcases q2 with ⟨_, q2⟩ | ⟨a', k', _, _, b', rfl⟩
      · exact absurd hb.2.1 (q2 a k)
      · obtain ⟨rfl, rfl⟩ := qBs_eq hb b'
        exact q1
    · obtain ⟨v, w', g1, g2, g3⟩ := s_ruling12 h N d t T2 (fun q => ⟨(hN q).1, (hN q).2.2⟩) hu
      rcases g3 with ⟨_, g3⟩ | ⟨a', k', _, _, b', rfl⟩
      · exact absurd hb.2.1 (g3 a k trivial)
      · obtain ⟨rfl, rfl⟩ := qBs_eq hb b'
        exact ⟨w', g1, g2⟩
/-- .. and the same number -/
theorem q_num {n : Nat} {w : zWd} (h : qInv n w) {N : Nat} (hN6 : N < 6) (d : Int32) (t : Nat) (T T2 : Int32) (hN : N = 0 → t < 8 ∧ T = nI t ∧ T2 = nI t) : ∃ x, x ≤ 999 ∧ (∀ u, qRc w u → ∃ r, mX3_ruling 14 (nI N) 82 T d u = some (r, u) ∧ mX3_numberBy 14 r (nI N) u = some (nI x, u)) ∧ ∀ u, u 232 = w 232 → ∃ w', mX12_ruleFor 231 (nI N) T2 d u = some (nI x, w') ∧ qS1 u w' := by
  obtain ⟨S, hS, o1, o2⟩ := q_orders h
  have e2 : (w 232 2).toInt = S := by rw [o2, nIi (by omega)]
  have hN2 : nI N = 0 → t < 8 ∧ T = nI t ∧ T2 = nI t := fun q => hN (by rw [show (0 : Int32) = nI 0 from rfl, nIe (by omega) (by omega)] at q; exact q)
  rcases q_rul h (nI N) d t T T2 hN2 with ⟨r1, r2⟩ | ⟨a, k, ha, hk, hc, r1, r2⟩
  · have m5 : ∀ u, mX3_numberBy 14 (-5) (nI N) u = some ((zSVv 1).getD N 0, u) := fun u => by
      unfold mX3_numberBy
      rw [if_neg (by decide), zgd_t (show zin (nI N) 6 from vp_in_nI hN6 (by decide)), nI_clamp (by omega)]
    have mm : ∀ v : Int32, (if (nI N : Int32) = 0 then (100 : Int32) else if nI N = 1 then 99 else if nI N = 3 then 99 else if nI N = 2 then 1 else 0) = v → ∀ u, u 232 = w 232 → ∃ w', mX12_ruleFor 231 (nI N) T2 d u = some (v, w') ∧ qS1 u w' := by
      intro v hv u hu
      obtain ⟨w', g1, g2⟩ := r2 u hu
      refine ⟨w', ?_, g2⟩
      unfold mX12_ruleFor mX12_ruleFor_61 mX12_ruleFor_46 mX12_ruleFor_61
      rw [g1, zcl_s, if_pos rfl, ← hv]
      by_cases c0 : (nI N : Int32) = 0
      · rw [if_pos c0, if_pos c0]
      rw [if_neg c0, if_neg c0]
      by_cases c1 : (nI N : Int32) = 1
      · rw [if_pos c1, if_pos c1]
      rw [if_neg c1, if_neg c1]
      by_cases c3 : (nI N : Int32) = 3
      · rw [if_pos c3, if_pos c3]
      rw [if_neg c3, if_neg c3]
      by_cases c2 : (nI N : Int32) = 2
      · rw [if_pos c2, if_pos c2]
      rw [if_neg c2, if_neg c2]
    have key : ∀ v : Nat, v ≤ 999 → (zSVv 1).getD N 0 = nI v → (if (nI N : Int32) = 0 then (100 : Int32) else if nI N = 1 then 99 else if nI N = 3 then 99 else if nI N = 2 then 1 else 0) = nI v → ∃ x, x ≤ 999 ∧ (∀ u, qRc w u → ∃ r, mX3_ruling 14 (nI N) 82 T d u = some (r, u) ∧ mX3_numberBy 14 r (nI N) u = some (nI x, u)) ∧ ∀ u, u 232 = w 232 → ∃ w', mX12_ruleFor 231 (nI N) T2 d u = some (nI x, w') ∧ qS1 u w' := fun v h1 h2 h3 => ⟨v, h1, fun u hu => ⟨_, r1 u hu, by rw [m5, h2]⟩, mm _ h3⟩
    clear mm m5 hN hN2 r1 r2
    rcases (show N = 0 ∨ N = 1 ∨ N = 2 ∨ N = 3 ∨ N = 4 ∨ N = 5 by omega) with rfl | rfl | rfl | rfl | rfl | rfl
    · exact key 100 (by decide) (by decide +kernel) (by decide +kernel)
    · exact key 99 (by decide) (by decide +kernel) (by decide +kernel)
    · exact key 1 (by decide) (by decide +kernel) (by decide +kernel)
    · exact key 99 (by decide) (by decide +kernel) (by decide +kernel)
    · exact key 0 (by decide) (by decide +kernel) (by decide +kernel)
    · exact key 0 (by decide) (by decide +kernel) (by decide +kernel)
  · have haS : a < S := by have := hc.1; rw [e2] at this; omega
    obtain ⟨F, K, m, hF, hK, f1, f2, f3, f4, htx, hcl⟩ := q_ord h hS o2 haS
    have hkK : k < K := by have := hc.2.1; rw [f4, nIi (by omega)] at this; omega
    obtain ⟨⟨Nw, V, n1, n2, n3, n4, n5, n6⟩, _⟩ := hcl k hkK
    refine ⟨V, n2, fun u hu => ⟨_, r1 u hu, ?_⟩, fun u hu => ?_⟩
    · unfold mX3_numberBy
      have d1 : nI (100 * a + k) / 100 = nI a := by rw [show (100 : Int32) = nI 100 from rfl, pk_div (by omega) (by decide) (by decide)]; congr 1; omega
      have d2 : nI (100 * a + k) - nI a * 100 = nI k := by rw [show (100 : Int32) = nI 100 from rfl, pk_mul, pk_sub (by omega)]; congr 1; omega
      rw [if_pos (show (0 : Int32) ≤ nI (100 * a + k) from nI_pos' (by omega)), d1, d2, zgd_t (show zin (nI a) 11 from vp_in_nI (by omega) (by decide)), zgd_t (show zin (nI k) 8 from vp_in_nI hk (by decide)), nI_clamp (by omega), nI_clamp (by omega), show 14 + 1 + 1 + 6 * a + 2 = 18 + 6 * a by omega, hu (18 + 6 * a) (by omega) (by omega), n5]
    · obtain ⟨w', g1, g2⟩ := r2 u hu
      refine ⟨w', ?_, g2⟩
      have e232 := (g2.1 232 (by decide)).trans hu
      unfold mX12_ruleFor
      have n0 : ¬ nI (8 * a + k) = -1 := fun q => absurd (congrArg Int32.toInt q) (by rw [nIi (by omega), Tm1]; omega)
      rw [g1, zcl_s, if_neg n0]
      simp (disch := (first | omega | (simp (disch := omega) only [zu1, zu2, zu3, nIi, show (1700 : Int32) = nI 1700 from rfl, e232]; omega))) only [if_true, if_false, zE10, zE00, zOkN, Nat.reduceAdd, Nat.reduceMul, zcl_s, zif01, zbn_e, nIi, nI_clamp, nI_add, nI_1, pk_mul, zgi, zlt, zle, Int32.zero_add, Int32.add_zero, C0, C1, G0, G1, Nat.zero_add, Nat.add_zero, l2, l3, l4, l5, l6, l7, l8, l10, l11, l12, l20, l30, l48, l50, l60, l100, l120, l140, l152, l164, l176, l188, l200, l212, l224, l1604, l1880, l2000, l2008, l2016, l2024, l2032, l2040, l2048, l2210, l2240, l2270, l2300, l2330, l2390, l2450, l2510, l2570, l2590, l2620, l2650, l2660, l2700, T0, T1, Tm1, Tm99, Tm999, p_within, p_in, p_isCell, p_isOwner, p_isDay11, p_isDay12, p_isTap11, p_isTaker11, if_pos, if_neg, p_isTap12, p_isTaker12, p_isGone, zu1, zu2, zu3, nIe, Nat.reduceSub, show (1700 : Int32) = nI 1700 from rfl, e232]
      rw [show 1700 + (8 * a + k) = 1700 + 8 * a + k by omega, n6]
/-- a rule of the World -/
theorem q_rules {n : Nat} {w : zWd} (h : qInv n w) {N : Nat} (hN6 : 0 < N ∧ N < 6) (d : Int32) : ∃ x, x ≤ 999 ∧ (∀ u, qRc w u → mX10_rules 1 (nI N) d u = some (nI x, u)) ∧ ∀ u, u 232 = w 232 → ∃ w', mX12_rule 231 (nI N) d u = some (nI x, w') ∧ qS1 u w' := by
  obtain ⟨x, hx, g0, g⟩ := q_num h hN6.2 d 0 0 (-1) (fun q => by omega)
  refine ⟨x, hx, fun u hu => ?_, fun u hu => ?_⟩
  · obtain ⟨r, r1, r2⟩ := g0 u hu
    unfold mX10_rules
    simp only [Nat.reduceAdd]
    rw [r1, zcl_s, r2, zcl_s]
  · obtain ⟨w', g1, g2⟩ := g u hu
    refine ⟨w', ?_, g2⟩
    unfold mX12_rule
    rw [g1, zcl_s]
/-- what the model leaves of its own cell counts for nothing -/
theorem qInv.s1 {n : Nat} {w w' : zWd} (h : qInv n w) (g : qS1 w w') : qInv n w' := by
  have hf : qFm w w' := ⟨fun a ha => g.1 a (fun e => by rw [e] at ha; exact absurd ha (by decide)), g.2 3 (by decide)⟩
  have ev : qVw w' 1 = qVw w 1 := by
    funext o
    unfold qVw
    by_cases ho : o < 102
    · rw [if_pos ho, if_pos ho, g.1 (1 + o) (by omega)]
    · rw [if_neg ho, if_neg ho]
  refine h.of (Nat.le_refl n) hf ?_ ?_
  · rw [ev, g.1 232 (by decide)]; exact h.1
  · rw [g.1 232 (by decide)]; exact Int.le_refl _
theorem qBoth_s1 {n : Nat} {w : zWd} {f g : zWd → Option (Int32 × zWd)} (h : qInv n w) {r : Int32} (h1 : f w = some (r, w)) (h2 : ∃ w', g w = some (r, w') ∧ qS1 w w') : qBoth n w f g := by
  obtain ⟨w', g1, g2⟩ := h2
  exact ⟨r, w, w', h1, g1, (h.s1 g2).mono (Nat.le_succ n)⟩
theorem u_why {n : Nat} {w : zWd} (h : qInv n w) (N T d : Int32) : qBoth n w (mX11_why 0 N T d) (mX12_why 231 N T d) := by
  obtain ⟨K, hK, e1, e2⟩ := q_takers h
  have e3 : 0 ≤ (w 232 3).toInt := by rw [e2, nIi (by omega)]; omega
  have i10 : ((1 : Int32) = 0) = False := by simp
  rcases zX N 6 6 rfl (by decide) with hN | ⟨N, hN, rfl⟩
  · exact qBoth_id h (-1) (by unfold mX11_why mX11_isRuled; simp (disch := (first | omega | (simp (disch := omega) only [zu1, zu2, zu3, nIi, T6, mX11_isRuled_25, mX11_isRuled_26, zgd_t zB0]; omega))) only [if_true, if_false, zE10, zE00, zOkN, Nat.reduceAdd, Nat.reduceMul, zcl_s, zif01, zbn_e, nIi, nI_clamp, nI_add, nI_1, pk_mul, zgi, zlt, zle, Int32.zero_add, Int32.add_zero, C0, C1, G0, G1, Nat.zero_add, Nat.add_zero, l2, l3, l4, l5, l6, l7, l8, l10, l11, l12, l20, l30, l48, l50, l60, l100, l120, l140, l152, l164, l176, l188, l200, l212, l224, l1604, l1880, l2000, l2008, l2016, l2024, l2032, l2040, l2048, l2210, l2240, l2270, l2300, l2330, l2390, l2450, l2510, l2570, l2590, l2620, l2650, l2660, l2700, T0, T1, Tm1, Tm99, Tm999, p_within, p_in, p_isCell, p_isOwner, p_isDay11, p_isDay12, p_isTap11, p_isTaker11, if_pos, if_neg, p_isTap12, p_isTaker12, p_isGone, zu1, zu2, zu3, nIe, Nat.reduceSub, T6, mX11_isRuled_25, mX11_isRuled_26, zgd_t zB0]) (by unfold mX12_why; simp (disch := (first | omega | (simp (disch := omega) only [zu1, zu2, zu3, nIi, T5, mX12_why_21]; omega))) only [if_true, if_false, zE10, zE00, zOkN, Nat.reduceAdd, Nat.reduceMul, zcl_s, zif01, zbn_e, nIi, nI_clamp, nI_add, nI_1, pk_mul, zgi, zlt, zle, Int32.zero_add, Int32.add_zero, C0, C1, G0, G1, Nat.zero_add, Nat.add_zero, l2, l3, l4, l5, l6, l7, l8, l10, l11, l12, l20, l30, l48, l50, l60, l100, l120, l140, l152, l164, l176, l188, l200, l212, l224, l1604, l1880, l2000, l2008, l2016, l2024, l2032, l2040, l2048, l2210, l2240, l2270, l2300, l2330, l2390, l2450, l2510, l2570, l2590, l2620, l2650, l2660, l2700, T0, T1, Tm1, Tm99, Tm999, p_within, p_in, p_isCell, p_isOwner, p_isDay11, p_isDay12, p_isTap11, p_isTaker11, if_pos, if_neg, p_isTap12, p_isTaker12, p_isGone, zu1, zu2, zu3, nIe, Nat.reduceSub, T5, mX12_why_21])
  have z0 : ((nI 0 : Int32) = 0) = True := eq_true rfl
  have hz : (nI N = 0) = (N = 0) := by rw [show (0 : Int32) = nI 0 from rfl, nIe (by omega) (by omega)]
  by_cases hT : N = 0 ∧ ¬ (0 ≤ T.toInt ∧ T.toInt < K)
  · obtain ⟨rfl, hT⟩ := hT
    exact qBoth_id h (-1) (by unfold mX11_why mX11_isRuled; simp (disch := (first | omega | (simp (disch := omega) only [zu1, zu2, zu3, nIi, T6, e1, mX11_isRuled_25, mX11_isRuled_26, zgd_t zB0, z0]; omega))) only [if_true, if_false, zE10, zE00, zOkN, Nat.reduceAdd, Nat.reduceMul, zcl_s, zif01, zbn_e, nIi, nI_clamp, nI_add, nI_1, pk_mul, zgi, zlt, zle, Int32.zero_add, Int32.add_zero, C0, C1, G0, G1, Nat.zero_add, Nat.add_zero, l2, l3, l4, l5, l6, l7, l8, l10, l11, l12, l20, l30, l48, l50, l60, l100, l120, l140, l152, l164, l176, l188, l200, l212, l224, l1604, l1880, l2000, l2008, l2016, l2024, l2032, l2040, l2048, l2210, l2240, l2270, l2300, l2330, l2390, l2450, l2510, l2570, l2590, l2620, l2650, l2660, l2700, T0, T1, Tm1, Tm99, Tm999, p_within, p_in, p_isCell, p_isOwner, p_isDay11, p_isDay12, p_isTap11, p_isTaker11, if_pos, if_neg, p_isTap12, p_isTaker12, p_isGone, zu1, zu2, zu3, nIe, Nat.reduceSub, T6, e1, mX11_isRuled_25, mX11_isRuled_26, zgd_t zB0, z0]) (by unfold mX12_why; simp (disch := (first | omega | (simp (disch := omega) only [zu1, zu2, zu3, nIi, T5, e2, mX12_why_21, z0]; omega))) only [if_true, if_false, zE10, zE00, zOkN, Nat.reduceAdd, Nat.reduceMul, zcl_s, zif01, zbn_e, nIi, nI_clamp, nI_add, nI_1, pk_mul, zgi, zlt, zle, Int32.zero_add, Int32.add_zero, C0, C1, G0, G1, Nat.zero_add, Nat.add_zero, l2, l3, l4, l5, l6, l7, l8, l10, l11, l12, l20, l30, l48, l50, l60, l100, l120, l140, l152, l164, l176, l188, l200, l212, l224, l1604, l1880, l2000, l2008, l2016, l2024, l2032, l2040, l2048, l2210, l2240, l2270, l2300, l2330, l2390, l2450, l2510, l2570, l2590, l2620, l2650, l2660, l2700, T0, T1, Tm1, Tm99, Tm999, p_within, p_in, p_isCell, p_isOwner, p_isDay11, p_isDay12, p_isTap11, p_isTaker11, if_pos, if_neg, p_isTap12, p_isTaker12, p_isGone, zu1, zu2, zu3, nIe, Nat.reduceSub, T5, e2, mX12_why_21, z0])
  have rl : mX11_isRuled 0 (nI N) T w = some (1, w) := by
    unfold mX11_isRuled
    by_cases N0 : N = 0
    · subst N0
      simp (disch := (first | omega | (simp (disch := omega) only [zu1, zu2, zu3, nIi, T6, e1, mX11_isRuled_21, mX11_isRuled_26, zgd_t zB1, i10, z0]; omega))) only [if_true, if_false, zE10, zE00, zOkN, Nat.reduceAdd, Nat.reduceMul, zcl_s, zif01, zbn_e, nIi, nI_clamp, nI_add, nI_1, pk_mul, zgi, zlt, zle, Int32.zero_add, Int32.add_zero, C0, C1, G0, G1, Nat.zero_add, Nat.add_zero, l2, l3, l4, l5, l6, l7, l8, l10, l11, l12, l20, l30, l48, l50, l60, l100, l120, l140, l152, l164, l176, l188, l200, l212, l224, l1604, l1880, l2000, l2008, l2016, l2024, l2032, l2040, l2048, l2210, l2240, l2270, l2300, l2330, l2390, l2450, l2510, l2570, l2590, l2620, l2650, l2660, l2700, T0, T1, Tm1, Tm99, Tm999, p_within, p_in, p_isCell, p_isOwner, p_isDay11, p_isDay12, p_isTap11, p_isTaker11, if_pos, if_neg, p_isTap12, p_isTaker12, p_isGone, zu1, zu2, zu3, nIe, Nat.reduceSub, T6, e1, mX11_isRuled_21, mX11_isRuled_26, zgd_t zB1, i10, z0]
    · rw [p_within, zcl_s]
      simp (disch := (first | omega | (simp (disch := omega) only [zu1, zu2, zu3, nIi, T6, mX11_isRuled_21, mX11_isRuled_26, zgd_t zB1, i10, hz, N0]; omega))) only [if_true, if_false, zE10, zE00, zOkN, Nat.reduceAdd, Nat.reduceMul, zcl_s, zif01, zbn_e, nIi, nI_clamp, nI_add, nI_1, pk_mul, zgi, zlt, zle, Int32.zero_add, Int32.add_zero, C0, C1, G0, G1, Nat.zero_add, Nat.add_zero, l2, l3, l4, l5, l6, l7, l8, l10, l11, l12, l20, l30, l48, l50, l60, l100, l120, l140, l152, l164, l176, l188, l200, l212, l224, l1604, l1880, l2000, l2008, l2016, l2024, l2032, l2040, l2048, l2210, l2240, l2270, l2300, l2330, l2390, l2450, l2510, l2570, l2590, l2620, l2650, l2660, l2700, T0, T1, Tm1, Tm99, Tm999, p_within, p_in, p_isCell, p_isOwner, p_isDay11, p_isDay12, p_isTap11, p_isTaker11, if_pos, if_neg, p_isTap12, p_isTaker12, p_isGone, zu1, zu2, zu3, nIe, Nat.reduceSub, T6, mX11_isRuled_21, mX11_isRuled_26, zgd_t zB1, i10, hz, N0]
  have ml : mX12_why 231 (nI N) T d w = mX12_why_23 231 (nI N) T d w := by
    unfold mX12_why
    by_cases N0 : N = 0
    · subst N0
      simp (disch := (first | omega | (simp (disch := omega) only [zu1, zu2, zu3, nIi, T5, e2, z0]; omega))) only [if_true, if_false, zE10, zE00, zOkN, Nat.reduceAdd, Nat.reduceMul, zcl_s, zif01, zbn_e, nIi, nI_clamp, nI_add, nI_1, pk_mul, zgi, zlt, zle, Int32.zero_add, Int32.add_zero, C0, C1, G0, G1, Nat.zero_add, Nat.add_zero, l2, l3, l4, l5, l6, l7, l8, l10, l11, l12, l20, l30, l48, l50, l60, l100, l120, l140, l152, l164, l176, l188, l200, l212, l224, l1604, l1880, l2000, l2008, l2016, l2024, l2032, l2040, l2048, l2210, l2240, l2270, l2300, l2330, l2390, l2450, l2510, l2570, l2590, l2620, l2650, l2660, l2700, T0, T1, Tm1, Tm99, Tm999, p_within, p_in, p_isCell, p_isOwner, p_isDay11, p_isDay12, p_isTap11, p_isTaker11, if_pos, if_neg, p_isTap12, p_isTaker12, p_isGone, zu1, zu2, zu3, nIe, Nat.reduceSub, T5, e2, z0]
    · simp (disch := (first | omega | (simp (disch := omega) only [zu1, zu2, zu3, nIi, T5, hz, N0]; omega))) only [if_true, if_false, zE10, zE00, zOkN, Nat.reduceAdd, Nat.reduceMul, zcl_s, zif01, zbn_e, nIi, nI_clamp, nI_add, nI_1, pk_mul, zgi, zlt, zle, Int32.zero_add, Int32.add_zero, C0, C1, G0, G1, Nat.zero_add, Nat.add_zero, l2, l3, l4, l5, l6, l7, l8, l10, l11, l12, l20, l30, l48, l50, l60, l100, l120, l140, l152, l164, l176, l188, l200, l212, l224, l1604, l1880, l2000, l2008, l2016, l2024, l2032, l2040, l2048, l2210, l2240, l2270, l2300, l2330, l2390, l2450, l2510, l2570, l2590, l2620, l2650, l2660, l2700, T0, T1, Tm1, Tm99, Tm999, p_within, p_in, p_isCell, p_isOwner, p_isDay11, p_isDay12, p_isTap11, p_isTaker11, if_pos, if_neg, p_isTap12, p_isTaker12, p_isGone, zu1, zu2, zu3, nIe, Nat.reduceSub, T5, hz, N0]
  by_cases hd : 0 ≤ d.toInt ∧ d.toInt < 401
  rotate_left
  · exact qBoth_id h (-2) (by unfold mX11_why; rw [rl]; simp (disch := (first | omega | (simp (disch := omega) only [zu1, zu2, zu3, nIi, i10]; omega))) only [if_true, if_false, zE10, zE00, zOkN, Nat.reduceAdd, Nat.reduceMul, zcl_s, zif01, zbn_e, nIi, nI_clamp, nI_add, nI_1, pk_mul, zgi, zlt, zle, Int32.zero_add, Int32.add_zero, C0, C1, G0, G1, Nat.zero_add, Nat.add_zero, l2, l3, l4, l5, l6, l7, l8, l10, l11, l12, l20, l30, l48, l50, l60, l100, l120, l140, l152, l164, l176, l188, l200, l212, l224, l1604, l1880, l2000, l2008, l2016, l2024, l2032, l2040, l2048, l2210, l2240, l2270, l2300, l2330, l2390, l2450, l2510, l2570, l2590, l2620, l2650, l2660, l2700, T0, T1, Tm1, Tm99, Tm999, p_within, p_in, p_isCell, p_isOwner, p_isDay11, p_isDay12, p_isTap11, p_isTaker11, if_pos, if_neg, p_isTap12, p_isTaker12, p_isGone, zu1, zu2, zu3, nIe, Nat.reduceSub, i10]) (by rw [ml]; unfold mX12_why_23; simp (disch := (first | omega | (simp (disch := omega) only [zu1, zu2, zu3, nIi]; omega))) only [if_true, if_false, zE10, zE00, zOkN, Nat.reduceAdd, Nat.reduceMul, zcl_s, zif01, zbn_e, nIi, nI_clamp, nI_add, nI_1, pk_mul, zgi, zlt, zle, Int32.zero_add, Int32.add_zero, C0, C1, G0, G1, Nat.zero_add, Nat.add_zero, l2, l3, l4, l5, l6, l7, l8, l10, l11, l12, l20, l30, l48, l50, l60, l100, l120, l140, l152, l164, l176, l188, l200, l212, l224, l1604, l1880, l2000, l2008, l2016, l2024, l2032, l2040, l2048, l2210, l2240, l2270, l2300, l2330, l2390, l2450, l2510, l2570, l2590, l2620, l2650, l2660, l2700, T0, T1, Tm1, Tm99, Tm999, p_within, p_in, p_isCell, p_isOwner, p_isDay11, p_isDay12, p_isTap11, p_isTaker11, if_pos, if_neg, p_isTap12, p_isTaker12, p_isGone, zu1, zu2, zu3, nIe, Nat.reduceSub])
  have hrul := q_rul h (nI N) d T.toInt.toNat T T (fun q => by
    rw [hz] at q
    have hT2 : 0 ≤ T.toInt ∧ T.toInt < K := by
      by_cases c : 0 ≤ T.toInt ∧ T.toInt < K
      · exact c
      · exact absurd ⟨q, c⟩ hT
    obtain ⟨t, ht1, ht2⟩ := (zV T K (by omega)).elim id (fun c => absurd hT2 c)
    rw [ht2, nIi (by omega)]
    exact ⟨by omega, rfl, rfl⟩)
  rcases hrul with ⟨r1, r2⟩ | ⟨a, k, ha, hk, hc, r1, r2⟩
  · refine qBoth_s1 h (r := -5) ?_ ?_
    · unfold mX11_why; rw [rl]; simp (disch := (first | omega | (simp (disch := omega) only [zu1, zu2, zu3, nIi, i10]; omega))) only [if_true, if_false, zE10, zE00, zOkN, Nat.reduceAdd, Nat.reduceMul, zcl_s, zif01, zbn_e, nIi, nI_clamp, nI_add, nI_1, pk_mul, zgi, zlt, zle, Int32.zero_add, Int32.add_zero, C0, C1, G0, G1, Nat.zero_add, Nat.add_zero, l2, l3, l4, l5, l6, l7, l8, l10, l11, l12, l20, l30, l48, l50, l60, l100, l120, l140, l152, l164, l176, l188, l200, l212, l224, l1604, l1880, l2000, l2008, l2016, l2024, l2032, l2040, l2048, l2210, l2240, l2270, l2300, l2330, l2390, l2450, l2510, l2570, l2590, l2620, l2650, l2660, l2700, T0, T1, Tm1, Tm99, Tm999, p_within, p_in, p_isCell, p_isOwner, p_isDay11, p_isDay12, p_isTap11, p_isTaker11, if_pos, if_neg, p_isTap12, p_isTaker12, p_isGone, zu1, zu2, zu3, nIe, Nat.reduceSub, i10]; rw [r1 w (qRc.rf w)]; rfl
    · obtain ⟨w', g1, g2⟩ := r2 w rfl
      refine ⟨w', ?_, g2⟩
      rw [ml]; unfold mX12_why_23 mX12_why_67; simp (disch := (first | omega | (simp (disch := omega) only [zu1, zu2, zu3, nIi]; omega))) only [if_true, if_false, zE10, zE00, zOkN, Nat.reduceAdd, Nat.reduceMul, zcl_s, zif01, zbn_e, nIi, nI_clamp, nI_add, nI_1, pk_mul, zgi, zlt, zle, Int32.zero_add, Int32.add_zero, C0, C1, G0, G1, Nat.zero_add, Nat.add_zero, l2, l3, l4, l5, l6, l7, l8, l10, l11, l12, l20, l30, l48, l50, l60, l100, l120, l140, l152, l164, l176, l188, l200, l212, l224, l1604, l1880, l2000, l2008, l2016, l2024, l2032, l2040, l2048, l2210, l2240, l2270, l2300, l2330, l2390, l2450, l2510, l2570, l2590, l2620, l2650, l2660, l2700, T0, T1, Tm1, Tm99, Tm999, p_within, p_in, p_isCell, p_isOwner, p_isDay11, p_isDay12, p_isTap11, p_isTaker11, if_pos, if_neg, p_isTap12, p_isTaker12, p_isGone, zu1, zu2, zu3, nIe, Nat.reduceSub]; rw [g1, zcl_s]; rfl
  · refine qBoth_s1 h (r := nI (100 * a + k)) ?_ ?_
    · unfold mX11_why; rw [rl]; simp (disch := (first | omega | (simp (disch := omega) only [zu1, zu2, zu3, nIi, i10]; omega))) only [if_true, if_false, zE10, zE00, zOkN, Nat.reduceAdd, Nat.reduceMul, zcl_s, zif01, zbn_e, nIi, nI_clamp, nI_add, nI_1, pk_mul, zgi, zlt, zle, Int32.zero_add, Int32.add_zero, C0, C1, G0, G1, Nat.zero_add, Nat.add_zero, l2, l3, l4, l5, l6, l7, l8, l10, l11, l12, l20, l30, l48, l50, l60, l100, l120, l140, l152, l164, l176, l188, l200, l212, l224, l1604, l1880, l2000, l2008, l2016, l2024, l2032, l2040, l2048, l2210, l2240, l2270, l2300, l2330, l2390, l2450, l2510, l2570, l2590, l2620, l2650, l2660, l2700, T0, T1, Tm1, Tm99, Tm999, p_within, p_in, p_isCell, p_isOwner, p_isDay11, p_isDay12, p_isTap11, p_isTaker11, if_pos, if_neg, p_isTap12, p_isTaker12, p_isGone, zu1, zu2, zu3, nIe, Nat.reduceSub, i10]; rw [r1 w (qRc.rf w)]; rfl
    · obtain ⟨w', g1, g2⟩ := r2 w rfl
      refine ⟨w', ?_, g2⟩
      have d1 : nI (8 * a + k) / nI 8 = nI a := by rw [pk_div (by omega) (by decide) (by decide)]; congr 1; omega
      have d2 : nI (8 * a + k) - nI a * nI 8 = nI k := by rw [pk_mul, pk_sub (by omega)]; congr 1; omega
      have n0 : ¬ nI (8 * a + k) = -1 := fun q => absurd (congrArg Int32.toInt q) (by rw [nIi (by omega), Tm1]; omega)
      rw [ml]; unfold mX12_why_23 mX12_why_67; simp (disch := (first | omega | (simp (disch := omega) only [zu1, zu2, zu3, nIi]; omega))) only [if_true, if_false, zE10, zE00, zOkN, Nat.reduceAdd, Nat.reduceMul, zcl_s, zif01, zbn_e, nIi, nI_clamp, nI_add, nI_1, pk_mul, zgi, zlt, zle, Int32.zero_add, Int32.add_zero, C0, C1, G0, G1, Nat.zero_add, Nat.add_zero, l2, l3, l4, l5, l6, l7, l8, l10, l11, l12, l20, l30, l48, l50, l60, l100, l120, l140, l152, l164, l176, l188, l200, l212, l224, l1604, l1880, l2000, l2008, l2016, l2024, l2032, l2040, l2048, l2210, l2240, l2270, l2300, l2330, l2390, l2450, l2510, l2570, l2590, l2620, l2650, l2660, l2700, T0, T1, Tm1, Tm99, Tm999, p_within, p_in, p_isCell, p_isOwner, p_isDay11, p_isDay12, p_isTap11, p_isTaker11, if_pos, if_neg, p_isTap12, p_isTaker12, p_isGone, zu1, zu2, zu3, nIe, Nat.reduceSub]; rw [g1, zcl_s, if_neg n0, d1, d2, pk_mul, nI_add]
