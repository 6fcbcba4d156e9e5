theorem s_kind (a b : Nat) (ha : a < 6) (hb : b < 6) (w : zWd) : mX11_isKindOf (nI a) (nI b) w = some (if b = 0 ∨ b = a ∨ (b = 2 ∧ 4 ≤ a) ∨ (b = 4 ∧ a = 5) then 1 else 0, w) := by
  have st : ∀ (k : Int32 × Int32 × zWd → Option (Int32 × zWd)) (v i : Nat), v < 6 → i < 6 → mX11_isKindOf_4b (nI b) k (nI v) (nI i) w = if v = b then some (1, w) else k ((zSVv 2).getD v 0, nI (i + 1), w) := by
    intro k v i hv hi
    unfold mX11_isKindOf_4b mX11_isKindOf_38
    by_cases c : v = b
    · simp (disch := (first | omega | (simp (disch := omega) only [zu1, zu2, zu3, nIi, T6, zgd_t zB1, nIe, c]; omega))) only [if_true, if_false, zE10, zE00, zOkN, Nat.reduceAdd, Nat.reduceMul, zcl_s, zif01, zbn_e, nIi, nI_clamp, nI_add, nI_1, pk_mul, zgi, zlt, zle, Int32.zero_add, Int32.add_zero, C0, C1, G0, G1, Nat.zero_add, Nat.add_zero, l2, l3, l4, l5, l6, l7, l8, l10, l11, l12, l20, l30, l48, l50, l60, l100, l120, l140, l152, l164, l176, l188, l200, l212, l224, l1604, l1880, l2000, l2008, l2016, l2024, l2032, l2040, l2048, l2210, l2240, l2270, l2300, l2330, l2390, l2450, l2510, l2570, l2590, l2620, l2650, l2660, l2700, T0, T1, Tm1, Tm99, Tm999, p_within, p_in, p_isCell, p_isOwner, p_isDay11, p_isDay12, p_isTap11, p_isTaker11, if_pos, if_neg, p_isTap12, p_isTaker12, p_isGone, zu1, zu2, zu3, nIe, Nat.reduceSub, T6, zgd_t zB1, nIe, c]
    · simp (disch := (first | omega | (simp (disch := omega) only [zu1, zu2, zu3, nIi, T6, zgd_t zB1, nIe, c]; omega))) only [if_true, if_false, zE10, zE00, zOkN, Nat.reduceAdd, Nat.reduceMul, zcl_s, zif01, zbn_e, nIi, nI_clamp, nI_add, nI_1, pk_mul, zgi, zlt, zle, Int32.zero_add, Int32.add_zero, C0, C1, G0, G1, Nat.zero_add, Nat.add_zero, l2, l3, l4, l5, l6, l7, l8, l10, l11, l12, l20, l30, l48, l50, l60, l100, l120, l140, l152, l164, l176, l188, l200, l212, l224, l1604, l1880, l2000, l2008, l2016, l2024, l2032, l2040, l2048, l2210, l2240, l2270, l2300, l2330, l2390, l2450, l2510, l2570, l2590, l2620, l2650, l2660, l2700, T0, T1, Tm1, Tm99, Tm999, p_within, p_in, p_isCell, p_isOwner, p_isDay11, p_isDay12, p_isTap11, p_isTaker11, if_pos, if_neg, p_isTap12, p_isTaker12, p_isGone, zu1, zu2, zu3, nIe, Nat.reduceSub, T6, zgd_t zB1, nIe, c]
  have sp : ∀ (k : Int32 × Int32 × zWd → Option (Int32 × zWd)) (i : Nat), i < 6 → mX11_isKindOf_4b (nI b) k (-1) (nI i) w = some (0, w) := by
    intro k i hi
    unfold mX11_isKindOf_4b mX11_isKindOf_38
    simp (disch := (first | omega | (simp (disch := omega) only [zu1, zu2, zu3, nIi, T6, zgd_t zB0, Tm1]; omega))) only [if_true, if_false, zE10, zE00, zOkN, Nat.reduceAdd, Nat.reduceMul, zcl_s, zif01, zbn_e, nIi, nI_clamp, nI_add, nI_1, pk_mul, zgi, zlt, zle, Int32.zero_add, Int32.add_zero, C0, C1, G0, G1, Nat.zero_add, Nat.add_zero, l2, l3, l4, l5, l6, l7, l8, l10, l11, l12, l20, l30, l48, l50, l60, l100, l120, l140, l152, l164, l176, l188, l200, l212, l224, l1604, l1880, l2000, l2008, l2016, l2024, l2032, l2040, l2048, l2210, l2240, l2270, l2300, l2330, l2390, l2450, l2510, l2570, l2590, l2620, l2650, l2660, l2700, T0, T1, Tm1, Tm99, Tm999, p_within, p_in, p_isCell, p_isOwner, p_isDay11, p_isDay12, p_isTap11, p_isTaker11, if_pos, if_neg, p_isTap12, p_isTaker12, p_isGone, zu1, zu2, zu3, nIe, Nat.reduceSub, T6, zgd_t zB0, Tm1]
  have c0 : (zSVv 2).getD 0 0 = -1 := by decide +kernel
  have c1 : (zSVv 2).getD 1 0 = nI 0 := by decide +kernel
  have c2 : (zSVv 2).getD 2 0 = nI 0 := by decide +kernel
  have c3 : (zSVv 2).getD 3 0 = nI 0 := by decide +kernel
  have c4 : (zSVv 2).getD 4 0 = nI 2 := by decide +kernel
  have c5 : (zSVv 2).getD 5 0 = nI 4 := by decide +kernel
  unfold mX11_isKindOf mX11_isKindOf_4
  rw [show zFU = 99994 + 1 + 1 + 1 + 1 + 1 + 1 from rfl, zlp_1]
  show mX11_isKindOf_4b (nI b) _ (nI a) (nI 0) w = _
  rw [st _ a 0 ha (by omega)]
  by_cases e : a = b
  · rw [if_pos e, if_pos (Or.inr (Or.inl e.symm))]
  rw [if_neg e]
  have z0 : ∀ (i N : Nat), i < 5 → zlp (fun k q => mX11_isKindOf_4b (nI b) k q.1 q.2.1 q.2.2) (N + 1 + 1) (nI 0, nI i, w) = some (if b = 0 then 1 else 0, w) := by
    intro i N hi
    rw [zlp_1]
    show mX11_isKindOf_4b (nI b) _ (nI 0) (nI i) w = _
    rw [st _ 0 i (by omega) (by omega), c0]
    by_cases q : 0 = b
    · rw [if_pos q, if_pos q.symm]
    · rw [if_neg q, if_neg (Ne.symm q), zlp_1]
      exact sp _ _ (by omega)
  have z2 : ∀ (i N : Nat), i < 4 → zlp (fun k q => mX11_isKindOf_4b (nI b) k q.1 q.2.1 q.2.2) (N + 1 + 1 + 1) (nI 2, nI i, w) = some (if b = 2 ∨ b = 0 then 1 else 0, w) := by
    intro i N hi
    rw [zlp_1]
    show mX11_isKindOf_4b (nI b) _ (nI 2) (nI i) w = _
    rw [st _ 2 i (by omega) (by omega), c2]
    by_cases q : 2 = b
    · rw [if_pos q, if_pos (Or.inl q.symm)]
    · rw [if_neg q, z0 _ _ (by omega)]
      by_cases q0 : b = 0
      · rw [if_pos q0, if_pos (Or.inr q0)]
      · rw [if_neg q0, if_neg (by omega)]
  have fin : ∀ (p q : Prop) [Decidable p] [Decidable q], (p ↔ q) → (some ((if p then (1 : Int32) else 0), w) : Option (Int32 × zWd)) = some (if q then 1 else 0, w) := by
    intro p q _ _ hpq
    by_cases hp : p
    · rw [if_pos hp, if_pos (hpq.mp hp)]
    · rw [if_neg hp, if_neg (fun hq => hp (hpq.mpr hq))]
  rcases (show a = 0 ∨ a = 1 ∨ a = 2 ∨ a = 3 ∨ a = 4 ∨ a = 5 by omega) with rfl | rfl | rfl | rfl | rfl | rfl
  · rw [c0, zlp_1]
    refine (sp _ 1 (by omega)).trans ?_
    rw [if_neg (by omega)]
  · rw [c1, z0 1 _ (by omega)]; exact fin _ _ (by omega)
  · rw [c2, z0 1 _ (by omega)]; exact fin _ _ (by omega)
  · rw [c3, z0 1 _ (by omega)]; exact fin _ _ (by omega)
  · rw [c4, z2 1 _ (by omega)]; exact fin _ _ (by omega)
  · rw [c5, zlp_1]
    show mX11_isKindOf_4b (nI b) _ (nI 4) (nI 1) w = _
    rw [st _ 4 1 (by omega) (by omega), c4]
    by_cases q : 4 = b
    · rw [if_pos q, if_pos (by omega)]
    · rw [if_neg q, z2 _ _ (by omega)]; exact fin _ _ (by omega)
theorem u_as {n : Nat} {w : zWd} (h : qInv n w) (a b : Int32) : qBoth n w (mX11_as 0 a b) (mX12_as 231 a b) := by
  obtain ⟨T, hT, e1, e2⟩ := q_takers h
  have e3 : (w 232 3).toInt = T := by rw [e2, nIi (by omega)]
  rcases zX a T T rfl (by omega) with ha | ⟨a, ha, rfl⟩
  · exact qBoth_id h (-1) (by unfold mX11_as mX11_as_17; simp (disch := (first | omega | (simp (disch := omega) only [zu1, zu2, zu3, nIi, e1]; omega))) only [if_true, if_false, zE10, zE00, zOkN, Nat.reduceAdd, Nat.reduceMul, zcl_s, zif01, zbn_e, nIi, nI_clamp, nI_add, nI_1, pk_mul, zgi, zlt, zle, Int32.zero_add, Int32.add_zero, C0, C1, G0, G1, Nat.zero_add, Nat.add_zero, l2, l3, l4, l5, l6, l7, l8, l10, l11, l12, l20, l30, l48, l50, l60, l100, l120, l140, l152, l164, l176, l188, l200, l212, l224, l1604, l1880, l2000, l2008, l2016, l2024, l2032, l2040, l2048, l2210, l2240, l2270, l2300, l2330, l2390, l2450, l2510, l2570, l2590, l2620, l2650, l2660, l2700, T0, T1, Tm1, Tm99, Tm999, p_within, p_in, p_isCell, p_isOwner, p_isDay11, p_isDay12, p_isTap11, p_isTaker11, if_pos, if_neg, p_isTap12, p_isTaker12, p_isGone, zu1, zu2, zu3, nIe, Nat.reduceSub, e1]) (by unfold mX12_as mX12_as_17; simp (disch := (first | omega | (simp (disch := omega) only [zu1, zu2, zu3, nIi, e2]; omega))) only [if_true, if_false, zE10, zE00, zOkN, Nat.reduceAdd, Nat.reduceMul, zcl_s, zif01, zbn_e, nIi, nI_clamp, nI_add, nI_1, pk_mul, zgi, zlt, zle, Int32.zero_add, Int32.add_zero, C0, C1, G0, G1, Nat.zero_add, Nat.add_zero, l2, l3, l4, l5, l6, l7, l8, l10, l11, l12, l20, l30, l48, l50, l60, l100, l120, l140, l152, l164, l176, l188, l200, l212, l224, l1604, l1880, l2000, l2008, l2016, l2024, l2032, l2040, l2048, l2210, l2240, l2270, l2300, l2330, l2390, l2450, l2510, l2570, l2590, l2620, l2650, l2660, l2700, T0, T1, Tm1, Tm99, Tm999, p_within, p_in, p_isCell, p_isOwner, p_isDay11, p_isDay12, p_isTap11, p_isTaker11, if_pos, if_neg, p_isTap12, p_isTaker12, p_isGone, zu1, zu2, zu3, nIe, Nat.reduceSub, e2])
  rcases zX b 6 6 rfl (by omega) with hb | ⟨b, hb, rfl⟩
  · exact qBoth_id h (-1) (by unfold mX11_as mX11_as_17; simp (disch := (first | omega | (simp (disch := omega) only [zu1, zu2, zu3, nIi, e1, T6]; omega))) only [if_true, if_false, zE10, zE00, zOkN, Nat.reduceAdd, Nat.reduceMul, zcl_s, zif01, zbn_e, nIi, nI_clamp, nI_add, nI_1, pk_mul, zgi, zlt, zle, Int32.zero_add, Int32.add_zero, C0, C1, G0, G1, Nat.zero_add, Nat.add_zero, l2, l3, l4, l5, l6, l7, l8, l10, l11, l12, l20, l30, l48, l50, l60, l100, l120, l140, l152, l164, l176, l188, l200, l212, l224, l1604, l1880, l2000, l2008, l2016, l2024, l2032, l2040, l2048, l2210, l2240, l2270, l2300, l2330, l2390, l2450, l2510, l2570, l2590, l2620, l2650, l2660, l2700, T0, T1, Tm1, Tm99, Tm999, p_within, p_in, p_isCell, p_isOwner, p_isDay11, p_isDay12, p_isTap11, p_isTaker11, if_pos, if_neg, p_isTap12, p_isTaker12, p_isGone, zu1, zu2, zu3, nIe, Nat.reduceSub, e1, T6]) (by unfold mX12_as mX12_as_17; simp (disch := (first | omega | (simp (disch := omega) only [zu1, zu2, zu3, nIi, e2, T5]; omega))) only [if_true, if_false, zE10, zE00, zOkN, Nat.reduceAdd, Nat.reduceMul, zcl_s, zif01, zbn_e, nIi, nI_clamp, nI_add, nI_1, pk_mul, zgi, zlt, zle, Int32.zero_add, Int32.add_zero, C0, C1, G0, G1, Nat.zero_add, Nat.add_zero, l2, l3, l4, l5, l6, l7, l8, l10, l11, l12, l20, l30, l48, l50, l60, l100, l120, l140, l152, l164, l176, l188, l200, l212, l224, l1604, l1880, l2000, l2008, l2016, l2024, l2032, l2040, l2048, l2210, l2240, l2270, l2300, l2330, l2390, l2450, l2510, l2570, l2590, l2620, l2650, l2660, l2700, T0, T1, Tm1, Tm99, Tm999, p_within, p_in, p_isCell, p_isOwner, p_isDay11, p_isDay12, p_isTap11, p_isTaker11, if_pos, if_neg, p_isTap12, p_isTaker12, p_isGone, zu1, zu2, zu3, nIe, Nat.reduceSub, e2, T5])
  obtain ⟨k, hk, k1, k2⟩ := qSc h 13 17 rfl rfl (by decide) (i := a) (by omega)
  simp only [Nat.zero_add, Nat.reduceAdd] at k1
  have hk5 : k ≤ 5 := hk
  have g := qTo h 15 rfl (by decide) (i := a) (by omega)
  simp only [Nat.zero_add, Nat.reduceAdd] at g
  have hc := s_kind k b (by omega) hb w
  have nz : ∀ x y : Nat, x < 6 → y < 6 → ((nI x : Int32) = nI y) = (x = y) := fun x y hx hy => nIe (by omega) (by omega)
  by_cases c : b = 0 ∨ b = k ∨ (b = 2 ∧ 4 ≤ k) ∨ (b = 4 ∧ k = 5)
  · rw [if_pos c] at hc
    refine qBoth_id h (w 232 (2016 + a)) ?_ ?_
    · unfold mX11_as mX11_as_55
      simp (disch := (first | omega | (simp (disch := omega) only [zu1, zu2, zu3, nIi, e1, T6, k1, hc, g]; omega))) only [if_true, if_false, zE10, zE00, zOkN, Nat.reduceAdd, Nat.reduceMul, zcl_s, zif01, zbn_e, nIi, nI_clamp, nI_add, nI_1, pk_mul, zgi, zlt, zle, Int32.zero_add, Int32.add_zero, C0, C1, G0, G1, Nat.zero_add, Nat.add_zero, l2, l3, l4, l5, l6, l7, l8, l10, l11, l12, l20, l30, l48, l50, l60, l100, l120, l140, l152, l164, l176, l188, l200, l212, l224, l1604, l1880, l2000, l2008, l2016, l2024, l2032, l2040, l2048, l2210, l2240, l2270, l2300, l2330, l2390, l2450, l2510, l2570, l2590, l2620, l2650, l2660, l2700, T0, T1, Tm1, Tm99, Tm999, p_within, p_in, p_isCell, p_isOwner, p_isDay11, p_isDay12, p_isTap11, p_isTaker11, if_pos, if_neg, p_isTap12, p_isTaker12, p_isGone, zu1, zu2, zu3, nIe, Nat.reduceSub, e1, T6, k1, hc, g]
    · unfold mX12_as
      have e59 : mX12_as_59 231 (nI a) w = some (w 232 (2016 + a), w) := by
        unfold mX12_as_59 mX12_as_64 mX12_as_86
        simp (disch := (first | omega | (simp (disch := omega) only [zu1, zu2, zu3, nIi]; omega))) only [if_true, if_false, zE10, zE00, zOkN, Nat.reduceAdd, Nat.reduceMul, zcl_s, zif01, zbn_e, nIi, nI_clamp, nI_add, nI_1, pk_mul, zgi, zlt, zle, Int32.zero_add, Int32.add_zero, C0, C1, G0, G1, Nat.zero_add, Nat.add_zero, l2, l3, l4, l5, l6, l7, l8, l10, l11, l12, l20, l30, l48, l50, l60, l100, l120, l140, l152, l164, l176, l188, l200, l212, l224, l1604, l1880, l2000, l2008, l2016, l2024, l2032, l2040, l2048, l2210, l2240, l2270, l2300, l2330, l2390, l2450, l2510, l2570, l2590, l2620, l2650, l2660, l2700, T0, T1, Tm1, Tm99, Tm999, p_within, p_in, p_isCell, p_isOwner, p_isDay11, p_isDay12, p_isTap11, p_isTaker11, if_pos, if_neg, p_isTap12, p_isTaker12, p_isGone, zu1, zu2, zu3, nIe, Nat.reduceSub]
      have hz : (nI b = 0) = (b = 0) := by rw [show (0 : Int32) = nI 0 from rfl, nIe (by omega) (by omega)]
      simp (disch := (first | omega | (simp (disch := omega) only [zu1, zu2, zu3, nIi, e2, T5, k2, e59, hz, mX12_as_49]; omega))) only [if_true, if_false, zE10, zE00, zOkN, Nat.reduceAdd, Nat.reduceMul, zcl_s, zif01, zbn_e, nIi, nI_clamp, nI_add, nI_1, pk_mul, zgi, zlt, zle, Int32.zero_add, Int32.add_zero, C0, C1, G0, G1, Nat.zero_add, Nat.add_zero, l2, l3, l4, l5, l6, l7, l8, l10, l11, l12, l20, l30, l48, l50, l60, l100, l120, l140, l152, l164, l176, l188, l200, l212, l224, l1604, l1880, l2000, l2008, l2016, l2024, l2032, l2040, l2048, l2210, l2240, l2270, l2300, l2330, l2390, l2450, l2510, l2570, l2590, l2620, l2650, l2660, l2700, T0, T1, Tm1, Tm99, Tm999, p_within, p_in, p_isCell, p_isOwner, p_isDay11, p_isDay12, p_isTap11, p_isTaker11, if_pos, if_neg, p_isTap12, p_isTaker12, p_isGone, zu1, zu2, zu3, nIe, Nat.reduceSub, e2, T5, k2, e59, hz, mX12_as_49]
      by_cases b0 : b = 0
      · rw [if_pos b0]
      rw [if_neg b0]
      by_cases bk : b = k
      · rw [if_pos bk]
      rw [if_neg bk]
      rcases (show (b = 2 ∧ 4 ≤ k) ∨ (b = 4 ∧ k = 5) by omega) with ⟨b2, k4⟩ | ⟨b4, k5⟩
      · rw [if_pos b2]
      · rw [if_neg (by omega)]
  · rw [if_neg c] at hc
    refine qBoth_id h (-6) ?_ ?_
    · unfold mX11_as mX11_as_55
      simp (disch := (first | omega | (simp (disch := omega) only [zu1, zu2, zu3, nIi, e1, T6, k1, hc]; omega))) only [if_true, if_false, zE10, zE00, zOkN, Nat.reduceAdd, Nat.reduceMul, zcl_s, zif01, zbn_e, nIi, nI_clamp, nI_add, nI_1, pk_mul, zgi, zlt, zle, Int32.zero_add, Int32.add_zero, C0, C1, G0, G1, Nat.zero_add, Nat.add_zero, l2, l3, l4, l5, l6, l7, l8, l10, l11, l12, l20, l30, l48, l50, l60, l100, l120, l140, l152, l164, l176, l188, l200, l212, l224, l1604, l1880, l2000, l2008, l2016, l2024, l2032, l2040, l2048, l2210, l2240, l2270, l2300, l2330, l2390, l2450, l2510, l2570, l2590, l2620, l2650, l2660, l2700, T0, T1, Tm1, Tm99, Tm999, p_within, p_in, p_isCell, p_isOwner, p_isDay11, p_isDay12, p_isTap11, p_isTaker11, if_pos, if_neg, p_isTap12, p_isTaker12, p_isGone, zu1, zu2, zu3, nIe, Nat.reduceSub, e1, T6, k1, hc]
    · unfold mX12_as
      have e63 : mX12_as_63 231 (nI a) w = some (-6, w) := by
        unfold mX12_as_63 mX12_as_64 mX12_as_86
        rw [if_pos rfl]
      have hz : (nI b = 0) = (b = 0) := by rw [show (0 : Int32) = nI 0 from rfl, nIe (by omega) (by omega)]
      simp (disch := (first | omega | (simp (disch := omega) only [zu1, zu2, zu3, nIi, e2, T5, k2, e63, hz, mX12_as_49, ite_self]; omega))) only [if_true, if_false, zE10, zE00, zOkN, Nat.reduceAdd, Nat.reduceMul, zcl_s, zif01, zbn_e, nIi, nI_clamp, nI_add, nI_1, pk_mul, zgi, zlt, zle, Int32.zero_add, Int32.add_zero, C0, C1, G0, G1, Nat.zero_add, Nat.add_zero, l2, l3, l4, l5, l6, l7, l8, l10, l11, l12, l20, l30, l48, l50, l60, l100, l120, l140, l152, l164, l176, l188, l200, l212, l224, l1604, l1880, l2000, l2008, l2016, l2024, l2032, l2040, l2048, l2210, l2240, l2270, l2300, l2330, l2390, l2450, l2510, l2570, l2590, l2620, l2650, l2660, l2700, T0, T1, Tm1, Tm99, Tm999, p_within, p_in, p_isCell, p_isOwner, p_isDay11, p_isDay12, p_isTap11, p_isTaker11, if_pos, if_neg, p_isTap12, p_isTaker12, p_isGone, zu1, zu2, zu3, nIe, Nat.reduceSub, e2, T5, k2, e63, hz, mX12_as_49, ite_self]
/-- the last DAY of USE -/
def qLst (f : Nat → Int32) (d a : Int32) : Nat → Int32
  | 0 => a
  | i + 1 => if d.toInt < (f i).toInt then qLst f d a i else if (f i).toInt ≤ (qLst f d a i).toInt then qLst f d a i else f i
theorem qLst_congr {f g : Nat → Int32} {d a : Int32} {K : Nat} (h : ∀ i, i < K → f i = g i) : ∀ i, i ≤ K → qLst f d a i = qLst g d a i
  | 0, _ => rfl
  | i + 1, hi => by unfold qLst; rw [h i (by omega), qLst_congr h i (by omega)]
theorem s_lastUse {w : zWd} {a K : Nat} (ha : a < 8) (hK : K ≤ 20) (e : w 88 a = nI K) (d : Int32) : mX8_lastUse 82 (nI a) d w = some (qLst (fun i => w 89 (20 * a + i)) d (w 87 a) K, w) := by
  unfold mX8_lastUse mX8_lastUse_10
  rw [zgd_t (show zin (nI a) 8 from vp_in_nI ha (by decide)), zbn_e, nI_clamp (by omega)]
  refine zlp_to (P := fun i q => q = (qLst (fun i => w 89 (20 * a + i)) d (w 87 a) i, nI i, w)) (n := K) (by unfold zFU; omega) ?_ rfl
  rintro i hi q rfl k hk
  simp only [mX8_lastUse_10b, mX8_lastUse_50]
  by_cases h : i = K
  · subst h
    simp (disch := (first | omega | (simp (disch := omega) only [zu1, zu2, zu3, nIi, e]; omega))) only [if_true, if_false, zE10, zE00, zOkN, Nat.reduceAdd, Nat.reduceMul, zcl_s, zif01, zbn_e, nIi, nI_clamp, nI_add, nI_1, pk_mul, zgi, zlt, zle, Int32.zero_add, Int32.add_zero, C0, C1, G0, G1, Nat.zero_add, Nat.add_zero, l2, l3, l4, l5, l6, l7, l8, l10, l11, l12, l20, l30, l48, l50, l60, l100, l120, l140, l152, l164, l176, l188, l200, l212, l224, l1604, l1880, l2000, l2008, l2016, l2024, l2032, l2040, l2048, l2210, l2240, l2270, l2300, l2330, l2390, l2450, l2510, l2570, l2590, l2620, l2650, l2660, l2700, T0, T1, Tm1, Tm99, Tm999, p_within, p_in, p_isCell, p_isOwner, p_isDay11, p_isDay12, p_isTap11, p_isTaker11, if_pos, if_neg, p_isTap12, p_isTaker12, p_isGone, zu1, zu2, zu3, nIe, Nat.reduceSub, e]
  have hk2 : ∀ x, qLst (fun i => w 89 (20 * a + i)) d (w 87 a) (i + 1) = x → k (x, nI (i + 1), w) = some (qLst (fun i => w 89 (20 * a + i)) d (w 87 a) K, w) := fun x hx => hk (by omega) _ (by rw [← hx])
  by_cases c1 : d.toInt < (w 89 (20 * a + i)).toInt
  · simp (disch := (first | omega | (simp (disch := omega) only [zu1, zu2, zu3, nIi, e, show a * 20 + i = 20 * a + i by omega]; omega))) only [if_true, if_false, zE10, zE00, zOkN, Nat.reduceAdd, Nat.reduceMul, zcl_s, zif01, zbn_e, nIi, nI_clamp, nI_add, nI_1, pk_mul, zgi, zlt, zle, Int32.zero_add, Int32.add_zero, C0, C1, G0, G1, Nat.zero_add, Nat.add_zero, l2, l3, l4, l5, l6, l7, l8, l10, l11, l12, l20, l30, l48, l50, l60, l100, l120, l140, l152, l164, l176, l188, l200, l212, l224, l1604, l1880, l2000, l2008, l2016, l2024, l2032, l2040, l2048, l2210, l2240, l2270, l2300, l2330, l2390, l2450, l2510, l2570, l2590, l2620, l2650, l2660, l2700, T0, T1, Tm1, Tm99, Tm999, p_within, p_in, p_isCell, p_isOwner, p_isDay11, p_isDay12, p_isTap11, p_isTaker11, if_pos, if_neg, p_isTap12, p_isTaker12, p_isGone, zu1, zu2, zu3, nIe, Nat.reduceSub, e, show a * 20 + i = 20 * a + i by omega]
    exact hk2 _ (if_pos c1)
  by_cases c2 : (w 89 (20 * a + i)).toInt ≤ (qLst (fun i => w 89 (20 * a + i)) d (w 87 a) i).toInt
  · simp (disch := (first | omega | (simp (disch := omega) only [zu1, zu2, zu3, nIi, e, show a * 20 + i = 20 * a + i by omega]; omega))) only [if_true, if_false, zE10, zE00, zOkN, Nat.reduceAdd, Nat.reduceMul, zcl_s, zif01, zbn_e, nIi, nI_clamp, nI_add, nI_1, pk_mul, zgi, zlt, zle, Int32.zero_add, Int32.add_zero, C0, C1, G0, G1, Nat.zero_add, Nat.add_zero, l2, l3, l4, l5, l6, l7, l8, l10, l11, l12, l20, l30, l48, l50, l60, l100, l120, l140, l152, l164, l176, l188, l200, l212, l224, l1604, l1880, l2000, l2008, l2016, l2024, l2032, l2040, l2048, l2210, l2240, l2270, l2300, l2330, l2390, l2450, l2510, l2570, l2590, l2620, l2650, l2660, l2700, T0, T1, Tm1, Tm99, Tm999, p_within, p_in, p_isCell, p_isOwner, p_isDay11, p_isDay12, p_isTap11, p_isTaker11, if_pos, if_neg, p_isTap12, p_isTaker12, p_isGone, zu1, zu2, zu3, nIe, Nat.reduceSub, e, show a * 20 + i = 20 * a + i by omega]
    exact hk2 _ ((if_neg c1).trans (if_pos c2))
  · simp (disch := (first | omega | (simp (disch := omega) only [zu1, zu2, zu3, nIi, e, show a * 20 + i = 20 * a + i by omega]; omega))) only [if_true, if_false, zE10, zE00, zOkN, Nat.reduceAdd, Nat.reduceMul, zcl_s, zif01, zbn_e, nIi, nI_clamp, nI_add, nI_1, pk_mul, zgi, zlt, zle, Int32.zero_add, Int32.add_zero, C0, C1, G0, G1, Nat.zero_add, Nat.add_zero, l2, l3, l4, l5, l6, l7, l8, l10, l11, l12, l20, l30, l48, l50, l60, l100, l120, l140, l152, l164, l176, l188, l200, l212, l224, l1604, l1880, l2000, l2008, l2016, l2024, l2032, l2040, l2048, l2210, l2240, l2270, l2300, l2330, l2390, l2450, l2510, l2570, l2590, l2620, l2650, l2660, l2700, T0, T1, Tm1, Tm99, Tm999, p_within, p_in, p_isCell, p_isOwner, p_isDay11, p_isDay12, p_isTap11, p_isTaker11, if_pos, if_neg, p_isTap12, p_isTaker12, p_isGone, zu1, zu2, zu3, nIe, Nat.reduceSub, e, show a * 20 + i = 20 * a + i by omega]
    exact hk2 _ ((if_neg c1).trans (if_neg c2))
theorem s_lapsed12 {w w' : zWd} {a K x : Nat} (ha : a < 8) (hK : K ≤ 20) (hx : x ≤ 999) (e : w 232 (2040 + a) = nI K) (d f : Int32) (hr : mX12_rule 231 (nI 3) d w = some (nI x, w')) : mX12_lapsed_34 231 (nI a) d f 0 w = some (if (d - qLst (fun i => w 232 (2048 + 20 * a + i)) d f K).toInt ≤ x then 0 else 1, w') := by
  unfold mX12_lapsed_34
  refine zlp_to (P := fun i q => q = (qLst (fun i => w 232 (2048 + 20 * a + i)) d f i, nI i, w)) (n := K) (by unfold zFU; omega) ?_ rfl
  rintro i hi q rfl k hk
  simp only [mX12_lapsed_34b, mX12_lapsed_84, mX12_lapsed_85, mX12_lapsed_109]
  by_cases h : i = K
  · subst h
    by_cases c : (d - qLst (fun i => w 232 (2048 + 20 * a + i)) d f i).toInt ≤ x
    · simp (disch := (first | omega | (simp (disch := omega) only [zu1, zu2, zu3, nIi, e, hr]; omega))) only [if_true, if_false, zE10, zE00, zOkN, Nat.reduceAdd, Nat.reduceMul, zcl_s, zif01, zbn_e, nIi, nI_clamp, nI_add, nI_1, pk_mul, zgi, zlt, zle, Int32.zero_add, Int32.add_zero, C0, C1, G0, G1, Nat.zero_add, Nat.add_zero, l2, l3, l4, l5, l6, l7, l8, l10, l11, l12, l20, l30, l48, l50, l60, l100, l120, l140, l152, l164, l176, l188, l200, l212, l224, l1604, l1880, l2000, l2008, l2016, l2024, l2032, l2040, l2048, l2210, l2240, l2270, l2300, l2330, l2390, l2450, l2510, l2570, l2590, l2620, l2650, l2660, l2700, T0, T1, Tm1, Tm99, Tm999, p_within, p_in, p_isCell, p_isOwner, p_isDay11, p_isDay12, p_isTap11, p_isTaker11, if_pos, if_neg, p_isTap12, p_isTaker12, p_isGone, zu1, zu2, zu3, nIe, Nat.reduceSub, e, hr]
    · simp (disch := (first | omega | (simp (disch := omega) only [zu1, zu2, zu3, nIi, e, hr]; omega))) only [if_true, if_false, zE10, zE00, zOkN, Nat.reduceAdd, Nat.reduceMul, zcl_s, zif01, zbn_e, nIi, nI_clamp, nI_add, nI_1, pk_mul, zgi, zlt, zle, Int32.zero_add, Int32.add_zero, C0, C1, G0, G1, Nat.zero_add, Nat.add_zero, l2, l3, l4, l5, l6, l7, l8, l10, l11, l12, l20, l30, l48, l50, l60, l100, l120, l140, l152, l164, l176, l188, l200, l212, l224, l1604, l1880, l2000, l2008, l2016, l2024, l2032, l2040, l2048, l2210, l2240, l2270, l2300, l2330, l2390, l2450, l2510, l2570, l2590, l2620, l2650, l2660, l2700, T0, T1, Tm1, Tm99, Tm999, p_within, p_in, p_isCell, p_isOwner, p_isDay11, p_isDay12, p_isTap11, p_isTaker11, if_pos, if_neg, p_isTap12, p_isTaker12, p_isGone, zu1, zu2, zu3, nIe, Nat.reduceSub, e, hr]
  have hk2 : ∀ x', qLst (fun i => w 232 (2048 + 20 * a + i)) d f (i + 1) = x' → k (x', nI (i + 1), w) = some (if (d - qLst (fun i => w 232 (2048 + 20 * a + i)) d f K).toInt ≤ x then 0 else 1, w') := fun x' hx => hk (by omega) _ (by rw [← hx])
  by_cases c1 : d.toInt < (w 232 (2048 + 20 * a + i)).toInt
  · simp (disch := (first | omega | (simp (disch := omega) only [zu1, zu2, zu3, nIi, e]; omega))) only [if_true, if_false, zE10, zE00, zOkN, Nat.reduceAdd, Nat.reduceMul, zcl_s, zif01, zbn_e, nIi, nI_clamp, nI_add, nI_1, pk_mul, zgi, zlt, zle, Int32.zero_add, Int32.add_zero, C0, C1, G0, G1, Nat.zero_add, Nat.add_zero, l2, l3, l4, l5, l6, l7, l8, l10, l11, l12, l20, l30, l48, l50, l60, l100, l120, l140, l152, l164, l176, l188, l200, l212, l224, l1604, l1880, l2000, l2008, l2016, l2024, l2032, l2040, l2048, l2210, l2240, l2270, l2300, l2330, l2390, l2450, l2510, l2570, l2590, l2620, l2650, l2660, l2700, T0, T1, Tm1, Tm99, Tm999, p_within, p_in, p_isCell, p_isOwner, p_isDay11, p_isDay12, p_isTap11, p_isTaker11, if_pos, if_neg, p_isTap12, p_isTaker12, p_isGone, zu1, zu2, zu3, nIe, Nat.reduceSub, e]
    exact hk2 _ (if_pos c1)
  by_cases c2 : (w 232 (2048 + 20 * a + i)).toInt ≤ (qLst (fun i => w 232 (2048 + 20 * a + i)) d f i).toInt
  · simp (disch := (first | omega | (simp (disch := omega) only [zu1, zu2, zu3, nIi, e]; omega))) only [if_true, if_false, zE10, zE00, zOkN, Nat.reduceAdd, Nat.reduceMul, zcl_s, zif01, zbn_e, nIi, nI_clamp, nI_add, nI_1, pk_mul, zgi, zlt, zle, Int32.zero_add, Int32.add_zero, C0, C1, G0, G1, Nat.zero_add, Nat.add_zero, l2, l3, l4, l5, l6, l7, l8, l10, l11, l12, l20, l30, l48, l50, l60, l100, l120, l140, l152, l164, l176, l188, l200, l212, l224, l1604, l1880, l2000, l2008, l2016, l2024, l2032, l2040, l2048, l2210, l2240, l2270, l2300, l2330, l2390, l2450, l2510, l2570, l2590, l2620, l2650, l2660, l2700, T0, T1, Tm1, Tm99, Tm999, p_within, p_in, p_isCell, p_isOwner, p_isDay11, p_isDay12, p_isTap11, p_isTaker11, if_pos, if_neg, p_isTap12, p_isTaker12, p_isGone, zu1, zu2, zu3, nIe, Nat.reduceSub, e]
    exact hk2 _ ((if_neg c1).trans (if_pos c2))
  · simp (disch := (first | omega | (simp (disch := omega) only [zu1, zu2, zu3, nIi, e]; omega))) only [if_true, if_false, zE10, zE00, zOkN, Nat.reduceAdd, Nat.reduceMul, zcl_s, zif01, zbn_e, nIi, nI_clamp, nI_add, nI_1, pk_mul, zgi, zlt, zle, Int32.zero_add, Int32.add_zero, C0, C1, G0, G1, Nat.zero_add, Nat.add_zero, l2, l3, l4, l5, l6, l7, l8, l10, l11, l12, l20, l30, l48, l50, l60, l100, l120, l140, l152, l164, l176, l188, l200, l212, l224, l1604, l1880, l2000, l2008, l2016, l2024, l2032, l2040, l2048, l2210, l2240, l2270, l2300, l2330, l2390, l2450, l2510, l2570, l2590, l2620, l2650, l2660, l2700, T0, T1, Tm1, Tm99, Tm999, p_within, p_in, p_isCell, p_isOwner, p_isDay11, p_isDay12, p_isTap11, p_isTaker11, if_pos, if_neg, p_isTap12, p_isTaker12, p_isGone, zu1, zu2, zu3, nIe, Nat.reduceSub, e]
    exact hk2 _ ((if_neg c1).trans (if_neg c2))
theorem u_lapsed {n : Nat} {w : zWd} (h : qInv n w) (a d : Int32) : qBoth n w (mX11_lapsed 0 a d) (mX12_lapsed 231 a d) := by
  obtain ⟨T, hT, e1, e2⟩ := q_takers h
  have e3 : (w 232 3).toInt = T := by rw [e2, nIi (by omega)]
  rcases zX a T T rfl (by omega) with ha | ⟨a, ha, rfl⟩
  · exact qBoth_id h (-1) (by unfold mX11_lapsed; simp (disch := (first | omega | (simp (disch := omega) only [zu1, zu2, zu3, nIi, e1]; omega))) only [if_true, if_false, zE10, zE00, zOkN, Nat.reduceAdd, Nat.reduceMul, zcl_s, zif01, zbn_e, nIi, nI_clamp, nI_add, nI_1, pk_mul, zgi, zlt, zle, Int32.zero_add, Int32.add_zero, C0, C1, G0, G1, Nat.zero_add, Nat.add_zero, l2, l3, l4, l5, l6, l7, l8, l10, l11, l12, l20, l30, l48, l50, l60, l100, l120, l140, l152, l164, l176, l188, l200, l212, l224, l1604, l1880, l2000, l2008, l2016, l2024, l2032, l2040, l2048, l2210, l2240, l2270, l2300, l2330, l2390, l2450, l2510, l2570, l2590, l2620, l2650, l2660, l2700, T0, T1, Tm1, Tm99, Tm999, p_within, p_in, p_isCell, p_isOwner, p_isDay11, p_isDay12, p_isTap11, p_isTaker11, if_pos, if_neg, p_isTap12, p_isTaker12, p_isGone, zu1, zu2, zu3, nIe, Nat.reduceSub, e1]) (by unfold mX12_lapsed; simp (disch := (first | omega | (simp (disch := omega) only [zu1, zu2, zu3, nIi, e2]; omega))) only [if_true, if_false, zE10, zE00, zOkN, Nat.reduceAdd, Nat.reduceMul, zcl_s, zif01, zbn_e, nIi, nI_clamp, nI_add, nI_1, pk_mul, zgi, zlt, zle, Int32.zero_add, Int32.add_zero, C0, C1, G0, G1, Nat.zero_add, Nat.add_zero, l2, l3, l4, l5, l6, l7, l8, l10, l11, l12, l20, l30, l48, l50, l60, l100, l120, l140, l152, l164, l176, l188, l200, l212, l224, l1604, l1880, l2000, l2008, l2016, l2024, l2032, l2040, l2048, l2210, l2240, l2270, l2300, l2330, l2390, l2450, l2510, l2570, l2590, l2620, l2650, l2660, l2700, T0, T1, Tm1, Tm99, Tm999, p_within, p_in, p_isCell, p_isOwner, p_isDay11, p_isDay12, p_isTap11, p_isTaker11, if_pos, if_neg, p_isTap12, p_isTaker12, p_isGone, zu1, zu2, zu3, nIe, Nat.reduceSub, e2])
  by_cases hd : 0 ≤ d.toInt ∧ d.toInt < 401
  rotate_left
  · exact qBoth_id h (-2) (by unfold mX11_lapsed; simp (disch := (first | omega | (simp (disch := omega) only [zu1, zu2, zu3, nIi, e1]; omega))) only [if_true, if_false, zE10, zE00, zOkN, Nat.reduceAdd, Nat.reduceMul, zcl_s, zif01, zbn_e, nIi, nI_clamp, nI_add, nI_1, pk_mul, zgi, zlt, zle, Int32.zero_add, Int32.add_zero, C0, C1, G0, G1, Nat.zero_add, Nat.add_zero, l2, l3, l4, l5, l6, l7, l8, l10, l11, l12, l20, l30, l48, l50, l60, l100, l120, l140, l152, l164, l176, l188, l200, l212, l224, l1604, l1880, l2000, l2008, l2016, l2024, l2032, l2040, l2048, l2210, l2240, l2270, l2300, l2330, l2390, l2450, l2510, l2570, l2590, l2620, l2650, l2660, l2700, T0, T1, Tm1, Tm99, Tm999, p_within, p_in, p_isCell, p_isOwner, p_isDay11, p_isDay12, p_isTap11, p_isTaker11, if_pos, if_neg, p_isTap12, p_isTaker12, p_isGone, zu1, zu2, zu3, nIe, Nat.reduceSub, e1]) (by unfold mX12_lapsed; simp (disch := (first | omega | (simp (disch := omega) only [zu1, zu2, zu3, nIi, e2]; omega))) only [if_true, if_false, zE10, zE00, zOkN, Nat.reduceAdd, Nat.reduceMul, zcl_s, zif01, zbn_e, nIi, nI_clamp, nI_add, nI_1, pk_mul, zgi, zlt, zle, Int32.zero_add, Int32.add_zero, C0, C1, G0, G1, Nat.zero_add, Nat.add_zero, l2, l3, l4, l5, l6, l7, l8, l10, l11, l12, l20, l30, l48, l50, l60, l100, l120, l140, l152, l164, l176, l188, l200, l212, l224, l1604, l1880, l2000, l2008, l2016, l2024, l2032, l2040, l2048, l2210, l2240, l2270, l2300, l2330, l2390, l2450, l2510, l2570, l2590, l2620, l2650, l2660, l2700, T0, T1, Tm1, Tm99, Tm999, p_within, p_in, p_isCell, p_isOwner, p_isDay11, p_isDay12, p_isTap11, p_isTaker11, if_pos, if_neg, p_isTap12, p_isTaker12, p_isGone, zu1, zu2, zu3, nIe, Nat.reduceSub, e2])
  obtain ⟨F, hF, f1, f2⟩ := qSc h 17 21 rfl rfl (by decide) (i := a) (by omega)
  simp only [Nat.zero_add, Nat.reduceAdd] at f1
  obtain ⟨K, hK, k1, k2⟩ := qSc h 18 22 rfl rfl (by decide) (i := a) (by omega)
  simp only [Nat.zero_add, Nat.reduceAdd] at k1
  have hK2 : K ≤ 20 := hK
  obtain ⟨x, hx, g0, g⟩ := q_rules h (N := 3) (by omega) d
  have g1 := g0 w (qRc.rf w)
  obtain ⟨w', g2, g3⟩ := g w rfl
  have hq : ∀ i, i < K → w 89 (20 * a + i) = w 232 (2048 + 20 * a + i) := fun i hi => by
    have q := qTo h 19 rfl (by decide) (i := 20 * a + i) (by omega)
    simp only [Nat.zero_add, Nat.reduceAdd] at q
    rw [q]; congr 1; omega
  have hs := s_lastUse (w := w) (by omega) hK2 k1 d
  have hm := s_lapsed12 (w := w) (by omega) hK2 hx k2 d (nI F) g2
  rw [f1, qLst_congr (g := fun i => w 232 (2048 + 20 * a + i)) hq K (Nat.le_refl K)] at hs
  generalize qLst (fun i => w 232 (2048 + 20 * a + i)) d (nI F) K = L at hs hm
  refine qBoth_s1 h (r := if (d - L).toInt ≤ x then 0 else 1) ?_ ⟨w', ?_, g3⟩
  · unfold mX11_lapsed mX11_lapsed_53
    by_cases c : (d - L).toInt ≤ x
    · simp (disch := (first | omega | (simp (disch := omega) only [zu1, zu2, zu3, nIi, e1, hs, g1]; omega))) only [if_true, if_false, zE10, zE00, zOkN, Nat.reduceAdd, Nat.reduceMul, zcl_s, zif01, zbn_e, nIi, nI_clamp, nI_add, nI_1, pk_mul, zgi, zlt, zle, Int32.zero_add, Int32.add_zero, C0, C1, G0, G1, Nat.zero_add, Nat.add_zero, l2, l3, l4, l5, l6, l7, l8, l10, l11, l12, l20, l30, l48, l50, l60, l100, l120, l140, l152, l164, l176, l188, l200, l212, l224, l1604, l1880, l2000, l2008, l2016, l2024, l2032, l2040, l2048, l2210, l2240, l2270, l2300, l2330, l2390, l2450, l2510, l2570, l2590, l2620, l2650, l2660, l2700, T0, T1, Tm1, Tm99, Tm999, p_within, p_in, p_isCell, p_isOwner, p_isDay11, p_isDay12, p_isTap11, p_isTaker11, if_pos, if_neg, p_isTap12, p_isTaker12, p_isGone, zu1, zu2, zu3, nIe, Nat.reduceSub, e1, hs, g1]
    · simp (disch := (first | omega | (simp (disch := omega) only [zu1, zu2, zu3, nIi, e1, hs, g1]; omega))) only [if_true, if_false, zE10, zE00, zOkN, Nat.reduceAdd, Nat.reduceMul, zcl_s, zif01, zbn_e, nIi, nI_clamp, nI_add, nI_1, pk_mul, zgi, zlt, zle, Int32.zero_add, Int32.add_zero, C0, C1, G0, G1, Nat.zero_add, Nat.add_zero, l2, l3, l4, l5, l6, l7, l8, l10, l11, l12, l20, l30, l48, l50, l60, l100, l120, l140, l152, l164, l176, l188, l200, l212, l224, l1604, l1880, l2000, l2008, l2016, l2024, l2032, l2040, l2048, l2210, l2240, l2270, l2300, l2330, l2390, l2450, l2510, l2570, l2590, l2620, l2650, l2660, l2700, T0, T1, Tm1, Tm99, Tm999, p_within, p_in, p_isCell, p_isOwner, p_isDay11, p_isDay12, p_isTap11, p_isTaker11, if_pos, if_neg, p_isTap12, p_isTaker12, p_isGone, zu1, zu2, zu3, nIe, Nat.reduceSub, e1, hs, g1]
  · unfold mX12_lapsed
    simp (disch := (first | omega | (simp (disch := omega) only [zu1, zu2, zu3, nIi, e2, f2]; omega))) only [if_true, if_false, zE10, zE00, zOkN, Nat.reduceAdd, Nat.reduceMul, zcl_s, zif01, zbn_e, nIi, nI_clamp, nI_add, nI_1, pk_mul, zgi, zlt, zle, Int32.zero_add, Int32.add_zero, C0, C1, G0, G1, Nat.zero_add, Nat.add_zero, l2, l3, l4, l5, l6, l7, l8, l10, l11, l12, l20, l30, l48, l50, l60, l100, l120, l140, l152, l164, l176, l188, l200, l212, l224, l1604, l1880, l2000, l2008, l2016, l2024, l2032, l2040, l2048, l2210, l2240, l2270, l2300, l2330, l2390, l2450, l2510, l2570, l2590, l2620, l2650, l2660, l2700, T0, T1, Tm1, Tm99, Tm999, p_within, p_in, p_isCell, p_isOwner, p_isDay11, p_isDay12, p_isTap11, p_isTaker11, if_pos, if_neg, p_isTap12, p_isTaker12, p_isGone, zu1, zu2, zu3, nIe, Nat.reduceSub, e2, f2]
    exact hm
