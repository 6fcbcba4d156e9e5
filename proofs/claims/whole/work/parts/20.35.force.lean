theorem u_force {n : Nat} {w : zWd} (h : qInv n w) (N T d : Int32) : qBoth n w (mX11_force 0 N T d) (mX12_force 231 N T d) := by
  obtain ⟨K, hK, e1, e2⟩ := q_takers h
  have e3 : 0 ≤ (w 232 3).toInt := by rw [e2, nIi (by omega)]; omega
  have i10 : ((1 : Int32) = 0) = False := by simp
  rcases zX N 6 6 rfl (by decide) with hN | ⟨N, hN, rfl⟩
  · exact qBoth_id h (-1) (by unfold mX11_force mX11_isRuled; simp (disch := (first | omega | (simp (disch := omega) only [zu1, zu2, zu3, nIi, T6, mX11_isRuled_25, mX11_isRuled_26, zgd_t zB0]; omega))) only [if_true, if_false, zE10, zE00, zOkN, Nat.reduceAdd, Nat.reduceMul, zcl_s, zif01, zbn_e, nIi, nI_clamp, nI_add, nI_1, pk_mul, zgi, zlt, zle, Int32.zero_add, Int32.add_zero, C0, C1, G0, G1, Nat.zero_add, Nat.add_zero, l2, l3, l4, l5, l6, l7, l8, l10, l11, l12, l20, l30, l48, l50, l60, l100, l120, l140, l152, l164, l176, l188, l200, l212, l224, l1604, l1880, l2000, l2008, l2016, l2024, l2032, l2040, l2048, l2210, l2240, l2270, l2300, l2330, l2390, l2450, l2510, l2570, l2590, l2620, l2650, l2660, l2700, T0, T1, Tm1, Tm99, Tm999, p_within, p_in, p_isCell, p_isOwner, p_isDay11, p_isDay12, p_isTap11, p_isTaker11, if_pos, if_neg, p_isTap12, p_isTaker12, p_isGone, zu1, zu2, zu3, nIe, Nat.reduceSub, T6, mX11_isRuled_25, mX11_isRuled_26, zgd_t zB0]) (by unfold mX12_force; simp (disch := (first | omega | (simp (disch := omega) only [zu1, zu2, zu3, nIi, T5, mX12_force_21]; omega))) only [if_true, if_false, zE10, zE00, zOkN, Nat.reduceAdd, Nat.reduceMul, zcl_s, zif01, zbn_e, nIi, nI_clamp, nI_add, nI_1, pk_mul, zgi, zlt, zle, Int32.zero_add, Int32.add_zero, C0, C1, G0, G1, Nat.zero_add, Nat.add_zero, l2, l3, l4, l5, l6, l7, l8, l10, l11, l12, l20, l30, l48, l50, l60, l100, l120, l140, l152, l164, l176, l188, l200, l212, l224, l1604, l1880, l2000, l2008, l2016, l2024, l2032, l2040, l2048, l2210, l2240, l2270, l2300, l2330, l2390, l2450, l2510, l2570, l2590, l2620, l2650, l2660, l2700, T0, T1, Tm1, Tm99, Tm999, p_within, p_in, p_isCell, p_isOwner, p_isDay11, p_isDay12, p_isTap11, p_isTaker11, if_pos, if_neg, p_isTap12, p_isTaker12, p_isGone, zu1, zu2, zu3, nIe, Nat.reduceSub, T5, mX12_force_21])
  have z0 : ((nI 0 : Int32) = 0) = True := eq_true rfl
  have hz : (nI N = 0) = (N = 0) := by rw [show (0 : Int32) = nI 0 from rfl, nIe (by omega) (by omega)]
  by_cases hT : N = 0 ∧ ¬ (0 ≤ T.toInt ∧ T.toInt < K)
  · obtain ⟨rfl, hT⟩ := hT
    exact qBoth_id h (-1) (by unfold mX11_force mX11_isRuled; simp (disch := (first | omega | (simp (disch := omega) only [zu1, zu2, zu3, nIi, T6, e1, mX11_isRuled_25, mX11_isRuled_26, zgd_t zB0, z0]; omega))) only [if_true, if_false, zE10, zE00, zOkN, Nat.reduceAdd, Nat.reduceMul, zcl_s, zif01, zbn_e, nIi, nI_clamp, nI_add, nI_1, pk_mul, zgi, zlt, zle, Int32.zero_add, Int32.add_zero, C0, C1, G0, G1, Nat.zero_add, Nat.add_zero, l2, l3, l4, l5, l6, l7, l8, l10, l11, l12, l20, l30, l48, l50, l60, l100, l120, l140, l152, l164, l176, l188, l200, l212, l224, l1604, l1880, l2000, l2008, l2016, l2024, l2032, l2040, l2048, l2210, l2240, l2270, l2300, l2330, l2390, l2450, l2510, l2570, l2590, l2620, l2650, l2660, l2700, T0, T1, Tm1, Tm99, Tm999, p_within, p_in, p_isCell, p_isOwner, p_isDay11, p_isDay12, p_isTap11, p_isTaker11, if_pos, if_neg, p_isTap12, p_isTaker12, p_isGone, zu1, zu2, zu3, nIe, Nat.reduceSub, T6, e1, mX11_isRuled_25, mX11_isRuled_26, zgd_t zB0, z0]) (by unfold mX12_force; simp (disch := (first | omega | (simp (disch := omega) only [zu1, zu2, zu3, nIi, T5, e2, mX12_force_21, z0]; omega))) only [if_true, if_false, zE10, zE00, zOkN, Nat.reduceAdd, Nat.reduceMul, zcl_s, zif01, zbn_e, nIi, nI_clamp, nI_add, nI_1, pk_mul, zgi, zlt, zle, Int32.zero_add, Int32.add_zero, C0, C1, G0, G1, Nat.zero_add, Nat.add_zero, l2, l3, l4, l5, l6, l7, l8, l10, l11, l12, l20, l30, l48, l50, l60, l100, l120, l140, l152, l164, l176, l188, l200, l212, l224, l1604, l1880, l2000, l2008, l2016, l2024, l2032, l2040, l2048, l2210, l2240, l2270, l2300, l2330, l2390, l2450, l2510, l2570, l2590, l2620, l2650, l2660, l2700, T0, T1, Tm1, Tm99, Tm999, p_within, p_in, p_isCell, p_isOwner, p_isDay11, p_isDay12, p_isTap11, p_isTaker11, if_pos, if_neg, p_isTap12, p_isTaker12, p_isGone, zu1, zu2, zu3, nIe, Nat.reduceSub, T5, e2, mX12_force_21, z0])
  have rl : mX11_isRuled 0 (nI N) T w = some (1, w) := by
    unfold mX11_isRuled
    by_cases N0 : N = 0
    · subst N0
      simp (disch := (first | omega | (simp (disch := omega) only [zu1, zu2, zu3, nIi, T6, e1, mX11_isRuled_21, mX11_isRuled_26, zgd_t zB1, i10, z0]; omega))) only [if_true, if_false, zE10, zE00, zOkN, Nat.reduceAdd, Nat.reduceMul, zcl_s, zif01, zbn_e, nIi, nI_clamp, nI_add, nI_1, pk_mul, zgi, zlt, zle, Int32.zero_add, Int32.add_zero, C0, C1, G0, G1, Nat.zero_add, Nat.add_zero, l2, l3, l4, l5, l6, l7, l8, l10, l11, l12, l20, l30, l48, l50, l60, l100, l120, l140, l152, l164, l176, l188, l200, l212, l224, l1604, l1880, l2000, l2008, l2016, l2024, l2032, l2040, l2048, l2210, l2240, l2270, l2300, l2330, l2390, l2450, l2510, l2570, l2590, l2620, l2650, l2660, l2700, T0, T1, Tm1, Tm99, Tm999, p_within, p_in, p_isCell, p_isOwner, p_isDay11, p_isDay12, p_isTap11, p_isTaker11, if_pos, if_neg, p_isTap12, p_isTaker12, p_isGone, zu1, zu2, zu3, nIe, Nat.reduceSub, T6, e1, mX11_isRuled_21, mX11_isRuled_26, zgd_t zB1, i10, z0]
    · rw [p_within, zcl_s]
      simp (disch := (first | omega | (simp (disch := omega) only [zu1, zu2, zu3, nIi, T6, mX11_isRuled_21, mX11_isRuled_26, zgd_t zB1, i10, hz, N0]; omega))) only [if_true, if_false, zE10, zE00, zOkN, Nat.reduceAdd, Nat.reduceMul, zcl_s, zif01, zbn_e, nIi, nI_clamp, nI_add, nI_1, pk_mul, zgi, zlt, zle, Int32.zero_add, Int32.add_zero, C0, C1, G0, G1, Nat.zero_add, Nat.add_zero, l2, l3, l4, l5, l6, l7, l8, l10, l11, l12, l20, l30, l48, l50, l60, l100, l120, l140, l152, l164, l176, l188, l200, l212, l224, l1604, l1880, l2000, l2008, l2016, l2024, l2032, l2040, l2048, l2210, l2240, l2270, l2300, l2330, l2390, l2450, l2510, l2570, l2590, l2620, l2650, l2660, l2700, T0, T1, Tm1, Tm99, Tm999, p_within, p_in, p_isCell, p_isOwner, p_isDay11, p_isDay12, p_isTap11, p_isTaker11, if_pos, if_neg, p_isTap12, p_isTaker12, p_isGone, zu1, zu2, zu3, nIe, Nat.reduceSub, T6, mX11_isRuled_21, mX11_isRuled_26, zgd_t zB1, i10, hz, N0]
  have ml : mX12_force 231 (nI N) T d w = mX12_force_23 231 (nI N) T d w := by
    unfold mX12_force
    by_cases N0 : N = 0
    · subst N0
      simp (disch := (first | omega | (simp (disch := omega) only [zu1, zu2, zu3, nIi, T5, e2, z0]; omega))) only [if_true, if_false, zE10, zE00, zOkN, Nat.reduceAdd, Nat.reduceMul, zcl_s, zif01, zbn_e, nIi, nI_clamp, nI_add, nI_1, pk_mul, zgi, zlt, zle, Int32.zero_add, Int32.add_zero, C0, C1, G0, G1, Nat.zero_add, Nat.add_zero, l2, l3, l4, l5, l6, l7, l8, l10, l11, l12, l20, l30, l48, l50, l60, l100, l120, l140, l152, l164, l176, l188, l200, l212, l224, l1604, l1880, l2000, l2008, l2016, l2024, l2032, l2040, l2048, l2210, l2240, l2270, l2300, l2330, l2390, l2450, l2510, l2570, l2590, l2620, l2650, l2660, l2700, T0, T1, Tm1, Tm99, Tm999, p_within, p_in, p_isCell, p_isOwner, p_isDay11, p_isDay12, p_isTap11, p_isTaker11, if_pos, if_neg, p_isTap12, p_isTaker12, p_isGone, zu1, zu2, zu3, nIe, Nat.reduceSub, T5, e2, z0]
    · simp (disch := (first | omega | (simp (disch := omega) only [zu1, zu2, zu3, nIi, T5, hz, N0]; omega))) only [if_true, if_false, zE10, zE00, zOkN, Nat.reduceAdd, Nat.reduceMul, zcl_s, zif01, zbn_e, nIi, nI_clamp, nI_add, nI_1, pk_mul, zgi, zlt, zle, Int32.zero_add, Int32.add_zero, C0, C1, G0, G1, Nat.zero_add, Nat.add_zero, l2, l3, l4, l5, l6, l7, l8, l10, l11, l12, l20, l30, l48, l50, l60, l100, l120, l140, l152, l164, l176, l188, l200, l212, l224, l1604, l1880, l2000, l2008, l2016, l2024, l2032, l2040, l2048, l2210, l2240, l2270, l2300, l2330, l2390, l2450, l2510, l2570, l2590, l2620, l2650, l2660, l2700, T0, T1, Tm1, Tm99, Tm999, p_within, p_in, p_isCell, p_isOwner, p_isDay11, p_isDay12, p_isTap11, p_isTaker11, if_pos, if_neg, p_isTap12, p_isTaker12, p_isGone, zu1, zu2, zu3, nIe, Nat.reduceSub, T5, hz, N0]
  by_cases hd : 0 ≤ d.toInt ∧ d.toInt < 401
  rotate_left
  · exact qBoth_id h (-2) (by unfold mX11_force; rw [rl]; simp (disch := (first | omega | (simp (disch := omega) only [zu1, zu2, zu3, nIi, i10]; omega))) only [if_true, if_false, zE10, zE00, zOkN, Nat.reduceAdd, Nat.reduceMul, zcl_s, zif01, zbn_e, nIi, nI_clamp, nI_add, nI_1, pk_mul, zgi, zlt, zle, Int32.zero_add, Int32.add_zero, C0, C1, G0, G1, Nat.zero_add, Nat.add_zero, l2, l3, l4, l5, l6, l7, l8, l10, l11, l12, l20, l30, l48, l50, l60, l100, l120, l140, l152, l164, l176, l188, l200, l212, l224, l1604, l1880, l2000, l2008, l2016, l2024, l2032, l2040, l2048, l2210, l2240, l2270, l2300, l2330, l2390, l2450, l2510, l2570, l2590, l2620, l2650, l2660, l2700, T0, T1, Tm1, Tm99, Tm999, p_within, p_in, p_isCell, p_isOwner, p_isDay11, p_isDay12, p_isTap11, p_isTaker11, if_pos, if_neg, p_isTap12, p_isTaker12, p_isGone, zu1, zu2, zu3, nIe, Nat.reduceSub, i10]) (by rw [ml]; unfold mX12_force_23 mX12_force_42; simp (disch := (first | omega | (simp (disch := omega) only [zu1, zu2, zu3, nIi]; omega))) only [if_true, if_false, zE10, zE00, zOkN, Nat.reduceAdd, Nat.reduceMul, zcl_s, zif01, zbn_e, nIi, nI_clamp, nI_add, nI_1, pk_mul, zgi, zlt, zle, Int32.zero_add, Int32.add_zero, C0, C1, G0, G1, Nat.zero_add, Nat.add_zero, l2, l3, l4, l5, l6, l7, l8, l10, l11, l12, l20, l30, l48, l50, l60, l100, l120, l140, l152, l164, l176, l188, l200, l212, l224, l1604, l1880, l2000, l2008, l2016, l2024, l2032, l2040, l2048, l2210, l2240, l2270, l2300, l2330, l2390, l2450, l2510, l2570, l2590, l2620, l2650, l2660, l2700, T0, T1, Tm1, Tm99, Tm999, p_within, p_in, p_isCell, p_isOwner, p_isDay11, p_isDay12, p_isTap11, p_isTaker11, if_pos, if_neg, p_isTap12, p_isTaker12, p_isGone, zu1, zu2, zu3, nIe, Nat.reduceSub])
  obtain ⟨x, hx, ⟨r, r1, r2⟩, g⟩ := q_num h hN d T.toInt.toNat T T (fun q => by
    have hT2 : 0 ≤ T.toInt ∧ T.toInt < K := by
      by_cases c : 0 ≤ T.toInt ∧ T.toInt < K
      · exact c
      · exact absurd ⟨q, c⟩ hT
    obtain ⟨t, ht1, ht2⟩ := (zV T K (by omega)).elim id (fun c => absurd hT2 c)
    rw [ht2, nIi (by omega)]
    exact ⟨by omega, rfl, rfl⟩)
  refine qBoth_s1 h (r := nI x) ?_ ?_
  · unfold mX11_force; rw [rl]; simp (disch := (first | omega | (simp (disch := omega) only [zu1, zu2, zu3, nIi, i10]; omega))) only [if_true, if_false, zE10, zE00, zOkN, Nat.reduceAdd, Nat.reduceMul, zcl_s, zif01, zbn_e, nIi, nI_clamp, nI_add, nI_1, pk_mul, zgi, zlt, zle, Int32.zero_add, Int32.add_zero, C0, C1, G0, G1, Nat.zero_add, Nat.add_zero, l2, l3, l4, l5, l6, l7, l8, l10, l11, l12, l20, l30, l48, l50, l60, l100, l120, l140, l152, l164, l176, l188, l200, l212, l224, l1604, l1880, l2000, l2008, l2016, l2024, l2032, l2040, l2048, l2210, l2240, l2270, l2300, l2330, l2390, l2450, l2510, l2570, l2590, l2620, l2650, l2660, l2700, T0, T1, Tm1, Tm99, Tm999, p_within, p_in, p_isCell, p_isOwner, p_isDay11, p_isDay12, p_isTap11, p_isTaker11, if_pos, if_neg, p_isTap12, p_isTaker12, p_isGone, zu1, zu2, zu3, nIe, Nat.reduceSub, i10]; rw [r1, zcl_s, r2, zcl_s]
  · obtain ⟨w', g1, g2⟩ := g w (qS1.rf w)
    refine ⟨w', ?_, g2⟩
    rw [ml]; unfold mX12_force_23 mX12_force_42; simp (disch := (first | omega | (simp (disch := omega) only [zu1, zu2, zu3, nIi]; omega))) only [if_true, if_false, zE10, zE00, zOkN, Nat.reduceAdd, Nat.reduceMul, zcl_s, zif01, zbn_e, nIi, nI_clamp, nI_add, nI_1, pk_mul, zgi, zlt, zle, Int32.zero_add, Int32.add_zero, C0, C1, G0, G1, Nat.zero_add, Nat.add_zero, l2, l3, l4, l5, l6, l7, l8, l10, l11, l12, l20, l30, l48, l50, l60, l100, l120, l140, l152, l164, l176, l188, l200, l212, l224, l1604, l1880, l2000, l2008, l2016, l2024, l2032, l2040, l2048, l2210, l2240, l2270, l2300, l2330, l2390, l2450, l2510, l2570, l2590, l2620, l2650, l2660, l2700, T0, T1, Tm1, Tm99, Tm999, p_within, p_in, p_isCell, p_isOwner, p_isDay11, p_isDay12, p_isTap11, p_isTaker11, if_pos, if_neg, p_isTap12, p_isTaker12, p_isGone, zu1, zu2, zu3, nIe, Nat.reduceSub]; rw [g1, zcl_s]
/-- cells that no call keeps -/
def qJc (a : Nat) : Bool := (decide (206 ≤ a) && decide (a ≤ 219)) || (decide (226 ≤ a) && decide (a ≤ 230)) || (decide (234 ≤ a) && decide (a ≤ 249))
def qJ (w w' : zWd) : Prop := (∀ k, k ≠ 231 → qJc k = false → w' k = w k) ∧ ∀ j, j < 10 ∨ 14 < j → w' 231 j = w 231 j
theorem qJ.rf (w : zWd) : qJ w w := ⟨fun _ _ _ => rfl, fun _ _ => rfl⟩
theorem qJ.tr {w w1 w2 : zWd} (h : qJ w w1) (g : qJ w1 w2) : qJ w w2 := ⟨fun k hk hj => (g.1 k hk hj).trans (h.1 k hk hj), fun j hj => (g.2 j hj).trans (h.2 j hj)⟩
theorem qJ.up {w w1 : zWd} (h : qJ w w1) {k : Nat} (hk : qJc k = true) (j : Nat) (v : Int32) : qJ w (zup w1 k j v) := ⟨fun a ha hj => by rw [zpE _ _ _ (fun e => by rw [e, hk] at hj; cases hj)]; exact h.1 a ha hj, fun i hi => by rw [zpE _ _ _ (fun e => by rw [← e] at hk; exact absurd hk (by decide))]; exact h.2 i hi⟩
theorem qJ.s1 {w w1 w2 : zWd} (h : qJ w w1) (g : qS1 w1 w2) : qJ w w2 := h.tr ⟨fun k hk _ => g.1 k hk, g.2⟩
/-- the World is the same, and what the model holds of orders -/
def qRs (w u : zWd) : Prop := (∀ a, 1 ≤ a → a ≤ 102 → u a = w a) ∧ ∀ i, i = 2 ∨ (240 ≤ i ∧ i < 1880) → u 232 i = w 232 i
theorem qRs.rf (w : zWd) : qRs w w := ⟨fun _ _ _ => rfl, fun _ _ => rfl⟩
theorem qJ.lo {w u : zWd} (h : qJ w u) {k : Nat} (hk : k ≤ 205 ∨ k = 220 ∨ k = 225 ∨ k = 232 ∨ k = 233) : u k = w k := by
  refine h.1 k (by omega) ?_
  unfold qJc
  simp only [Bool.or_eq_false_iff, Bool.and_eq_false_iff, decide_eq_false_iff_not]
  omega
theorem qJ.rs {w u : zWd} (h : qJ w u) : qRs w u := ⟨fun a h1 h2 => h.lo (by omega), fun i _ => by rw [h.lo (k := 232) (by omega)]⟩
/-- what no call keeps counts for nothing -/
theorem qInv.j {n : Nat} {w w' : zWd} (h : qInv n w) (g : qJ w w') : qInv n w' := by
  have hf : qFm w w' := ⟨fun a ha => g.lo (by unfold qPt at ha; simp at ha; omega), g.2 3 (by decide)⟩
  have ev : qVw w' 1 = qVw w 1 := by
    funext o
    unfold qVw
    by_cases ho : o < 102
    · rw [if_pos ho, if_pos ho, g.lo (by omega)]
    · rw [if_neg ho, if_neg ho]
  refine h.of (Nat.le_refl n) hf ?_ ?_
  · rw [ev, g.lo (k := 232) (by omega)]; exact h.1
  · rw [g.lo (k := 232) (by omega)]; exact Int.le_refl _
theorem qBoth_j {n : Nat} {w : zWd} {f g : zWd → Option (Int32 × zWd)} (h : qInv n w) {r : Int32} {w1 w2 : zWd} (h1 : f w = some (r, w1)) (h2 : g w1 = some (r, w2)) (h3 : qJ w w2) : qBoth n w f g := ⟨r, w1, w2, h1, h2, (h.j h3).mono (Nat.le_succ n)⟩
theorem qCd_same {n : Nat} {w u : zWd} (h : qInv n w) (g : qRs w u) (N : Int32) (t : Nat) (d : Int32) : qCd u N t d = qCd w N t d := by
  funext a k
  obtain ⟨S, hS, o1, o2⟩ := q_orders h
  have eT : qTw u t = qTw w t := by unfold qTw; rw [g.1 83 (by omega) (by omega), g.1 84 (by omega) (by omega), g.1 85 (by omega) (by omega), g.1 86 (by omega) (by omega), g.1 87 (by omega) (by omega)]
  unfold qCd
  rw [g.2 2 (Or.inl rfl), eT]
  by_cases ha : (a : Int) < (w 232 2).toInt
  rotate_left
  · exact propext ⟨fun c => absurd c.1 ha, fun c => absurd c.1 ha⟩
  have ha2 := ha
  rw [o2, nIi (by omega)] at ha2
  have eL : qLs u a k = qLs w a k := by unfold qLs; rw [g.1 (20 + 6 * a) (by omega) (by omega), g.1 (19 + 6 * a) (by omega) (by omega), g.1 (21 + 6 * a) (by omega) (by omega)]
  rw [eL, g.2 (1600 + a) (Or.inr (by omega)), g.2 (240 + a) (Or.inr (by omega))]
  by_cases hk : (k : Int) < (w 232 (1600 + a)).toInt
  · obtain ⟨F, K, m, hF, hK, f1, f2, f3, f4, htx, hcl⟩ := q_ord h hS o2 (show a < S by omega)
    have hk2 := hk
    rw [f4, nIi (by omega)] at hk2
    rw [g.2 (1612 + 8 * a + k) (Or.inr (by omega))]
  · exact propext ⟨fun c => absurd c.2.1 hk, fun c => absurd c.2.1 hk⟩
theorem qBs_same {n : Nat} {w u : zWd} (h : qInv n w) (g : qRs w u) {N : Int32} {t : Nat} {d : Int32} {Pr : Nat → Nat → Prop} {a k : Nat} (b : qBs u (qCd w N t d) Pr a k) : qBs w (qCd w N t d) Pr a k := by
  obtain ⟨S, hS, o1, o2⟩ := q_orders h
  have lt : ∀ a k, qCd w N t d a k → a < 10 := fun a k c => by have := c.1; rw [o2, nIi (by omega)] at this; omega
  obtain ⟨b1, b2, b3⟩ := b
  refine ⟨b1, b2, fun a' k' p c => ?_⟩
  have := b3 a' k' p c
  have h1 := lt a k b2
  have h2 := lt a' k' c
  rwa [g.2 (240 + a') (Or.inr (by omega)), g.2 (240 + a) (Or.inr (by omega))] at this
/-- both find the same clause, wherever the World is the same -/
theorem q_rulU {n : Nat} {w : zWd} (h : qInv n w) (N d : Int32) (t : Nat) (T T2 : Int32) (hN : N = 0 → t < 8 ∧ T = nI t ∧ T2 = nI t) : (∀ m u, qInv m u → qRs w u → mX3_ruling 14 N 82 T d u = some (-5, u) ∧ ∃ w', mX12_ruling 231 N T2 d u = some (-1, w') ∧ qS1 u w') ∨ ∃ a k, a < 10 ∧ k < 8 ∧ qCd w N t d a k ∧ ∀ m u, qInv m u → qRs w u → mX3_ruling 14 N 82 T d u = some (nI (100 * a + k), u) ∧ ∃ w', mX12_ruling 231 N T2 d u = some (nI (8 * a + k), w') ∧ qS1 u w' := by
  obtain ⟨r, r1, r2⟩ := s_ruling11 h N d t T (fun q => ⟨(hN q).1, (hN q).2.1⟩)
  rcases r2 with ⟨_, r2⟩ | ⟨a, k, ha, hk, hb, _⟩
  · refine Or.inl (fun m u hu g => ?_)
    have ec := qCd_same h g N t d
    obtain ⟨r', q1, q2⟩ := s_ruling11 hu N d t T (fun q => ⟨(hN q).1, (hN q).2.1⟩)
    obtain ⟨v, w', g1, g2, g3⟩ := s_ruling12 hu N d t T2 (fun q => ⟨(hN q).1, (hN q).2.2⟩) (qS1.rf u)
    rw [ec] at q2 g3
    rcases q2 with ⟨rfl, _⟩ | ⟨a, k, _, _, b, _⟩
    rotate_left
    · exact absurd b.2.1 (r2 a k)
    rcases g3 with ⟨rfl, _⟩ | ⟨a, k, _, _, b, _⟩
    · exact ⟨q1, w', g1, g2⟩
    · exact absurd b.2.1 (r2 a k)
  · refine Or.inr ⟨a, k, ha, hk, hb.2.1, fun m u hu g => ?_⟩
    have ec := qCd_same h g N t d
    obtain ⟨r', q1, q2⟩ := s_ruling11 hu N d t T (fun q => ⟨(hN q).1, (hN q).2.1⟩)
    obtain ⟨v, w', g1, g2, g3⟩ := s_ruling12 hu N d t T2 (fun q => ⟨(hN q).1, (hN q).2.2⟩) (qS1.rf u)
    rw [ec] at q2 g3
    rcases q2 with ⟨_, q2⟩ | ⟨a2, k2, _, _, b2, rfl⟩
    · exact absurd hb.2.1 (q2 a k)
    obtain ⟨rfl, rfl⟩ := qBs_eq hb (qBs_same h g b2)
    rcases g3 with ⟨_, g3⟩ | ⟨a3, k3, _, _, b3, rfl⟩
    · exact absurd hb.2.1 (g3 a k trivial)
    obtain ⟨rfl, rfl⟩ := qBs_eq hb (qBs_same h g b3)
    exact ⟨q1, w', g1, g2⟩
/-- .. and the same number -/
theorem q_numU {n : Nat} {w : zWd} (h : qInv n w) {N : Nat} (hN6 : N < 6) (d : Int32) (t : Nat) (T T2 : Int32) (hN : N = 0 → t < 8 ∧ T = nI t ∧ T2 = nI t) : ∃ x, x ≤ 999 ∧ ∀ m u, qInv m u → qRs w u → (∃ r, mX3_ruling 14 (nI N) 82 T d u = some (r, u) ∧ mX3_numberBy 14 r (nI N) u = some (nI x, u)) ∧ ∃ w', mX12_ruleFor 231 (nI N) T2 d u = some (nI x, w') ∧ qS1 u w' := by
  obtain ⟨S, hS, o1, o2⟩ := q_orders h
  have e2 : (w 232 2).toInt = S := by rw [o2, nIi (by omega)]
  have hN2 : nI N = 0 → t < 8 ∧ T = nI t ∧ T2 = nI t := fun q => hN (by rw [show (0 : Int32) = nI 0 from rfl, nIe (by omega) (by omega)] at q; exact q)
  rcases q_rulU h (nI N) d t T T2 hN2 with r0 | ⟨a, k, ha, hk, hc, r0⟩
  · have m5 : ∀ u, mX3_numberBy 14 (-5) (nI N) u = some ((zSVv 1).getD N 0, u) := fun u => by
      unfold mX3_numberBy
      rw [if_neg (by decide), zgd_t (show zin (nI N) 6 from vp_in_nI hN6 (by decide)), nI_clamp (by omega)]
    have mm : ∀ v : Int32, (if (nI N : Int32) = 0 then (100 : Int32) else if nI N = 1 then 99 else if nI N = 3 then 99 else if nI N = 2 then 1 else 0) = v → ∀ m u, qInv m u → qRs w u → ∃ w', mX12_ruleFor 231 (nI N) T2 d u = some (v, w') ∧ qS1 u w' := by
      intro v hv m u hu gu
      obtain ⟨w', g1, g2⟩ := (r0 m u hu gu).2
      refine ⟨w', ?_, g2⟩
      unfold mX12_ruleFor mX12_ruleFor_61 mX12_ruleFor_46 mX12_ruleFor_61
      rw [g1, zcl_s, if_pos rfl, ← hv]
      by_cases c0 : (nI N : Int32) = 0
      · rw [if_pos c0, if_pos c0]
      rw [if_neg c0, if_neg c0]
      by_cases c1 : (nI N : Int32) = 1
      · rw [if_pos c1, if_pos c1]
      rw [if_neg c1, if_neg c1]
      by_cases c3 : (nI N : Int32) = 3
      · rw [if_pos c3, if_pos c3]
      rw [if_neg c3, if_neg c3]
      by_cases c2 : (nI N : Int32) = 2
      · rw [if_pos c2, if_pos c2]
      rw [if_neg c2, if_neg c2]
    have key : ∀ v : Nat, v ≤ 999 → (zSVv 1).getD N 0 = nI v → (if (nI N : Int32) = 0 then (100 : Int32) else if nI N = 1 then 99 else if nI N = 3 then 99 else if nI N = 2 then 1 else 0) = nI v → ∃ x, x ≤ 999 ∧ ∀ m u, qInv m u → qRs w u → (∃ r, mX3_ruling 14 (nI N) 82 T d u = some (r, u) ∧ mX3_numberBy 14 r (nI N) u = some (nI x, u)) ∧ ∃ w', mX12_ruleFor 231 (nI N) T2 d u = some (nI x, w') ∧ qS1 u w' := fun v h1 h2 h3 => ⟨v, h1, fun m u hu gu => ⟨⟨_, (r0 m u hu gu).1, by rw [m5, h2]⟩, mm _ h3 m u hu gu⟩⟩
    clear mm m5 hN hN2 r0
    rcases (show N = 0 ∨ N = 1 ∨ N = 2 ∨ N = 3 ∨ N = 4 ∨ N = 5 by omega) with rfl | rfl | rfl | rfl | rfl | rfl
    · exact key 100 (by decide) (by decide +kernel) (by decide +kernel)
    · exact key 99 (by decide) (by decide +kernel) (by decide +kernel)
    · exact key 1 (by decide) (by decide +kernel) (by decide +kernel)
    · exact key 99 (by decide) (by decide +kernel) (by decide +kernel)
    · exact key 0 (by decide) (by decide +kernel) (by decide +kernel)
    · exact key 0 (by decide) (by decide +kernel) (by decide +kernel)
  · have haS : a < S := by have := hc.1; rw [e2] at this; omega
    obtain ⟨F, K, m, hF, hK, f1, f2, f3, f4, htx, hcl⟩ := q_ord h hS o2 haS
    have hkK : k < K := by have := hc.2.1; rw [f4, nIi (by omega)] at this; omega
    obtain ⟨⟨Nw, V, n1, n2, n3, n4, n5, n6⟩, _⟩ := hcl k hkK
    refine ⟨V, n2, fun m u hu gu => ⟨⟨_, (r0 m u hu gu).1, ?_⟩, ?_⟩⟩
    · unfold mX3_numberBy
      have d1 : nI (100 * a + k) / 100 = nI a := by rw [show (100 : Int32) = nI 100 from rfl, pk_div (by omega) (by decide) (by decide)]; congr 1; omega
      have d2 : nI (100 * a + k) - nI a * 100 = nI k := by rw [show (100 : Int32) = nI 100 from rfl, pk_mul, pk_sub (by omega)]; congr 1; omega
      rw [if_pos (show (0 : Int32) ≤ nI (100 * a + k) from nI_pos' (by omega)), d1, d2, zgd_t (show zin (nI a) 11 from vp_in_nI (by omega) (by decide)), zgd_t (show zin (nI k) 8 from vp_in_nI hk (by decide)), nI_clamp (by omega), nI_clamp (by omega), show 14 + 1 + 1 + 6 * a + 2 = 18 + 6 * a by omega, gu.1 (18 + 6 * a) (by omega) (by omega), n5]
    · obtain ⟨w', g1, g2⟩ := (r0 m u hu gu).2
      refine ⟨w', ?_, g2⟩
      have e232 : w' 232 (1700 + (8 * a + k)) = w 232 (1700 + (8 * a + k)) := by rw [g2.1 232 (by decide)]; exact gu.2 _ (Or.inr (by omega))
      unfold mX12_ruleFor
      have n0 : ¬ nI (8 * a + k) = -1 := fun q => absurd (congrArg Int32.toInt q) (by rw [nIi (by omega), Tm1]; omega)
      rw [g1, zcl_s, if_neg n0]
      simp (disch := (first | omega | (simp (disch := omega) only [zu1, zu2, zu3, nIi, show (1700 : Int32) = nI 1700 from rfl, e232]; omega))) only [if_true, if_false, zE10, zE00, zOkN, Nat.reduceAdd, Nat.reduceMul, zcl_s, zif01, zbn_e, nIi, nI_clamp, nI_add, nI_1, pk_mul, zgi, zlt, zle, Int32.zero_add, Int32.add_zero, C0, C1, G0, G1, Nat.zero_add, Nat.add_zero, l2, l3, l4, l5, l6, l7, l8, l10, l11, l12, l20, l30, l48, l50, l60, l100, l120, l140, l152, l164, l176, l188, l200, l212, l224, l1604, l1880, l2000, l2008, l2016, l2024, l2032, l2040, l2048, l2210, l2240, l2270, l2300, l2330, l2390, l2450, l2510, l2570, l2590, l2620, l2650, l2660, l2700, T0, T1, Tm1, Tm99, Tm999, p_within, p_in, p_isCell, p_isOwner, p_isDay11, p_isDay12, p_isTap11, p_isTaker11, if_pos, if_neg, p_isTap12, p_isTaker12, p_isGone, zu1, zu2, zu3, nIe, Nat.reduceSub, show (1700 : Int32) = nI 1700 from rfl, e232]
      rw [show 1700 + (8 * a + k) = 1700 + 8 * a + k by omega, n6]
/-- a rule of the World, wherever it is the same -/
theorem q_rulesU {n : Nat} {w : zWd} (h : qInv n w) {N : Nat} (hN6 : 0 < N ∧ N < 6) (d : Int32) : ∃ x, x ≤ 999 ∧ ∀ m u, qInv m u → qRs w u → mX10_rules 1 (nI N) d u = some (nI x, u) ∧ ∃ w', mX12_rule 231 (nI N) d u = some (nI x, w') ∧ qS1 u w' := by
  obtain ⟨x, hx, g⟩ := q_numU h hN6.2 d 0 0 (-1) (fun q => by omega)
  refine ⟨x, hx, fun m u hu gu => ?_⟩
  obtain ⟨⟨r, r1, r2⟩, w', g1, g2⟩ := g m u hu gu
  refine ⟨?_, w', ?_, g2⟩
  · unfold mX10_rules
    simp only [Nat.reduceAdd]
    rw [r1, zcl_s, r2, zcl_s]
  · unfold mX12_rule
    rw [g1, zcl_s]
