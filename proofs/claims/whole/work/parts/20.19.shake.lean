theorem g_shake {c : Nat → Nat → Int32} {s p : Nat → Int32} (h : qRl c s p) {a : Nat} (ha2 : a < 30) {v : Int32} (hv : -999 ≤ v.toInt ∧ v.toInt ≤ 999) (hn : qBit (c 93 7) a = 0 → (qCnt (c 93 7) 30).toInt < 6) :
    qRl (qupc (qupc c 93 7 (c 93 7 ||| ((1 : Int32) <<< (nI a &&& 31)))) 99 a v) (upd (upd s (2590 + a) 1) (2620 + a) v) p := by
  obtain ⟨hT, hG, hTp, hD, hC, hP, hL, hO⟩ := h
  have h10 := (qRg_at hG 2 rfl (i := 0) (by decide)).2
  have h10a : ((upd s (2590 + a) 1) 2).toInt ≤ 10 := by rw [qu_ne s _ (show 2 ≠ 2590 + a by omega)]; exact h10
  have h10b : ((upd (upd s (2590 + a) 1) (2620 + a) v) 2).toInt ≤ 10 := by rw [qu_ne _ v (show 2 ≠ 2620 + a by omega)]; exact h10a
  have t1 := qTb_s (qTb_c hT (o := 93) (j := 7) (lo := 7) (hi := 8) (by decide) (by omega) (by omega) (c 93 7 ||| ((1 : Int32) <<< (nI a &&& 31)))) (lo := 2590) (hi := 2620) (by decide) (show 2590 ≤ 2590 + a by omega) (by omega) 1
  refine ⟨qTb_put t1 28 rfl (i := a) (j := a) (k := 2620 + a) (by omega) (by omega) (by omega) v, qRg_put (qRg_put hG (lo := 2590) (hi := 2620) (a := 0) (b := 1) (by decide) (by omega) (by omega) (by decide)) (lo := 2620) (hi := 2650) (a := -999) (b := 999) (by decide) (by omega) (by omega) hv, (((hTp.s_ (by omega)).s_ (by omega)).c_ (by omega)).c_ (by omega), (((hD.s_ (by omega)).s_ (by omega)).c_ (by omega)).c_ (by omega), ?_, (hP.s_ (by omega)).s_ (by omega), (hL.s_ (by omega)).s_ (by omega), (((hO.s_ h10 (by omega)).s_ h10a (by omega)).c_ h10b (by omega)).c_ h10b (by omega)⟩
  have e5 : qupc (qupc c 93 7 (c 93 7 ||| ((1 : Int32) <<< (nI a &&& 31)))) 99 a v 93 7 = c 93 7 ||| ((1 : Int32) <<< (nI a &&& 31)) := by
    rw [qc_ne2 _ _ (by omega)]; unfold qupc; rw [if_pos rfl, qu_eq]
  unfold qCh
  rw [e5]
  have hr := or_rng (t := a) (k := 30) (by decide) ha2 ⟨hC.1.1, hC.1.2.1⟩
  refine ⟨⟨hr.1, hr.2, ?_⟩, fun t ht => ?_⟩
  · rw [qCnt_or 30 (by decide) (by omega)]
    obtain ⟨k, hk, ek⟩ := qCnt_nat (x := c 93 7) 30 (by decide)
    by_cases g : qBit (c 93 7) a = 0
    · rw [if_pos ⟨ha2, g⟩]
      have := hn g
      rw [ek] at this ⊢
      rw [nI_1, nIi (by omega)]
      rw [nIi (by omega)] at this
      omega
    · rw [if_neg (by rintro ⟨_, q⟩; exact g q)]; exact hC.1.2.2
  · rw [qBit_or _ (by omega) (by omega), qu_ne _ v (show 2590 + t ≠ 2620 + a by omega)]
    by_cases et : t = a
    · subst et
      rw [if_pos rfl, qu_eq]
    · rw [if_neg et, qu_ne s _ (by omega)]
      exact hC.2 t ht
theorem f_shake {w : zWd} (a : Nat) (ha : a < 30) (v : Int32) : mX11_shake_60 0 (nI a) v w = some (qCnt (w 94 7 ||| ((1 : Int32) <<< (nI a &&& 31))) 32, zup (zup w 94 7 (w 94 7 ||| ((1 : Int32) <<< (nI a &&& 31)))) 100 a v) := by
  unfold mX11_shake_60 mX6_setChange
  simp (disch := (first | omega | (simp (disch := omega) only [zu1, zu2, zu3, nIi]; omega))) only [if_true, if_false, zE10, zE00, zOkN, Nat.reduceAdd, Nat.reduceMul, zcl_s, zif01, zbn_e, nIi, nI_clamp, nI_add, nI_1, pk_mul, zgi, zlt, zle, Int32.zero_add, Int32.add_zero, C0, C1, G0, G1, Nat.zero_add, Nat.add_zero, l2, l3, l4, l5, l6, l7, l8, l10, l11, l12, l20, l30, l48, l50, l60, l100, l120, l140, l152, l164, l176, l188, l200, l212, l224, l1604, l1880, l2000, l2008, l2016, l2024, l2032, l2040, l2048, l2210, l2240, l2270, l2300, l2330, l2390, l2450, l2510, l2570, l2590, l2620, l2650, l2660, l2700, T0, T1, Tm1, Tm99, Tm999, p_within, p_in, p_isCell, p_isOwner, p_isDay11, p_isDay12, p_isTap11, p_isTaker11, if_pos, if_neg, p_isTap12, p_isTaker12, p_isGone, zu1, zu2, zu3, nIe, Nat.reduceSub]
  rw [s_changes11]
  simp (disch := (first | omega | (simp (disch := omega) only [zu1, zu2, zu3, nIi]; omega))) only [if_true, if_false, zE10, zE00, zOkN, Nat.reduceAdd, Nat.reduceMul, zcl_s, zif01, zbn_e, nIi, nI_clamp, nI_add, nI_1, pk_mul, zgi, zlt, zle, Int32.zero_add, Int32.add_zero, C0, C1, G0, G1, Nat.zero_add, Nat.add_zero, l2, l3, l4, l5, l6, l7, l8, l10, l11, l12, l20, l30, l48, l50, l60, l100, l120, l140, l152, l164, l176, l188, l200, l212, l224, l1604, l1880, l2000, l2008, l2016, l2024, l2032, l2040, l2048, l2210, l2240, l2270, l2300, l2330, l2390, l2450, l2510, l2570, l2590, l2620, l2650, l2660, l2700, T0, T1, Tm1, Tm99, Tm999, p_within, p_in, p_isCell, p_isOwner, p_isDay11, p_isDay12, p_isTap11, p_isTaker11, if_pos, if_neg, p_isTap12, p_isTaker12, p_isGone, zu1, zu2, zu3, nIe, Nat.reduceSub]
theorem u_shake {n : Nat} {w : zWd} (h : qInv n w) (a v : Int32) : qBoth n w (mX11_shake 0 a v) (mX12_shake 231 a v) := by
  rcases zX a 30 30 rfl (by omega) with ha | ⟨a, ha, rfl⟩
  · exact qBoth_id h (-1) (by unfold mX11_shake; simp (disch := (first | omega | (simp (disch := omega) only [zu1, zu2, zu3, nIi, T30]; omega))) only [if_true, if_false, zE10, zE00, zOkN, Nat.reduceAdd, Nat.reduceMul, zcl_s, zif01, zbn_e, nIi, nI_clamp, nI_add, nI_1, pk_mul, zgi, zlt, zle, Int32.zero_add, Int32.add_zero, C0, C1, G0, G1, Nat.zero_add, Nat.add_zero, l2, l3, l4, l5, l6, l7, l8, l10, l11, l12, l20, l30, l48, l50, l60, l100, l120, l140, l152, l164, l176, l188, l200, l212, l224, l1604, l1880, l2000, l2008, l2016, l2024, l2032, l2040, l2048, l2210, l2240, l2270, l2300, l2330, l2390, l2450, l2510, l2570, l2590, l2620, l2650, l2660, l2700, T0, T1, Tm1, Tm99, Tm999, p_within, p_in, p_isCell, p_isOwner, p_isDay11, p_isDay12, p_isTap11, p_isTaker11, if_pos, if_neg, p_isTap12, p_isTaker12, p_isGone, zu1, zu2, zu3, nIe, Nat.reduceSub, T30]) (by unfold mX12_shake; simp (disch := (first | omega | (simp (disch := omega) only [zu1, zu2, zu3, nIi]; omega))) only [if_true, if_false, zE10, zE00, zOkN, Nat.reduceAdd, Nat.reduceMul, zcl_s, zif01, zbn_e, nIi, nI_clamp, nI_add, nI_1, pk_mul, zgi, zlt, zle, Int32.zero_add, Int32.add_zero, C0, C1, G0, G1, Nat.zero_add, Nat.add_zero, l2, l3, l4, l5, l6, l7, l8, l10, l11, l12, l20, l30, l48, l50, l60, l100, l120, l140, l152, l164, l176, l188, l200, l212, l224, l1604, l1880, l2000, l2008, l2016, l2024, l2032, l2040, l2048, l2210, l2240, l2270, l2300, l2330, l2390, l2450, l2510, l2570, l2590, l2620, l2650, l2660, l2700, T0, T1, Tm1, Tm99, Tm999, p_within, p_in, p_isCell, p_isOwner, p_isDay11, p_isDay12, p_isTap11, p_isTaker11, if_pos, if_neg, p_isTap12, p_isTaker12, p_isGone, zu1, zu2, zu3, nIe, Nat.reduceSub])
  by_cases hv : -999 ≤ v.toInt ∧ v.toInt ≤ 999
  rotate_left
  · refine qBoth_id h (-2) ?_ (by unfold mX12_shake; simp (disch := (first | omega | (simp (disch := omega) only [zu1, zu2, zu3, nIi, T999]; omega))) only [if_true, if_false, zE10, zE00, zOkN, Nat.reduceAdd, Nat.reduceMul, zcl_s, zif01, zbn_e, nIi, nI_clamp, nI_add, nI_1, pk_mul, zgi, zlt, zle, Int32.zero_add, Int32.add_zero, C0, C1, G0, G1, Nat.zero_add, Nat.add_zero, l2, l3, l4, l5, l6, l7, l8, l10, l11, l12, l20, l30, l48, l50, l60, l100, l120, l140, l152, l164, l176, l188, l200, l212, l224, l1604, l1880, l2000, l2008, l2016, l2024, l2032, l2040, l2048, l2210, l2240, l2270, l2300, l2330, l2390, l2450, l2510, l2570, l2590, l2620, l2650, l2660, l2700, T0, T1, Tm1, Tm99, Tm999, p_within, p_in, p_isCell, p_isOwner, p_isDay11, p_isDay12, p_isTap11, p_isTaker11, if_pos, if_neg, p_isTap12, p_isTaker12, p_isGone, zu1, zu2, zu3, nIe, Nat.reduceSub, T999])
    unfold mX11_shake
    by_cases h1 : v.toInt < -999
    · simp (disch := (first | omega | (simp (disch := omega) only [zu1, zu2, zu3, nIi, T30, T999, mX11_shake_25]; omega))) only [if_true, if_false, zE10, zE00, zOkN, Nat.reduceAdd, Nat.reduceMul, zcl_s, zif01, zbn_e, nIi, nI_clamp, nI_add, nI_1, pk_mul, zgi, zlt, zle, Int32.zero_add, Int32.add_zero, C0, C1, G0, G1, Nat.zero_add, Nat.add_zero, l2, l3, l4, l5, l6, l7, l8, l10, l11, l12, l20, l30, l48, l50, l60, l100, l120, l140, l152, l164, l176, l188, l200, l212, l224, l1604, l1880, l2000, l2008, l2016, l2024, l2032, l2040, l2048, l2210, l2240, l2270, l2300, l2330, l2390, l2450, l2510, l2570, l2590, l2620, l2650, l2660, l2700, T0, T1, Tm1, Tm99, Tm999, p_within, p_in, p_isCell, p_isOwner, p_isDay11, p_isDay12, p_isTap11, p_isTaker11, if_pos, if_neg, p_isTap12, p_isTaker12, p_isGone, zu1, zu2, zu3, nIe, Nat.reduceSub, T30, T999, mX11_shake_25]
    · simp (disch := (first | omega | (simp (disch := omega) only [zu1, zu2, zu3, nIi, T30, T999, mX11_shake_25]; omega))) only [if_true, if_false, zE10, zE00, zOkN, Nat.reduceAdd, Nat.reduceMul, zcl_s, zif01, zbn_e, nIi, nI_clamp, nI_add, nI_1, pk_mul, zgi, zlt, zle, Int32.zero_add, Int32.add_zero, C0, C1, G0, G1, Nat.zero_add, Nat.add_zero, l2, l3, l4, l5, l6, l7, l8, l10, l11, l12, l20, l30, l48, l50, l60, l100, l120, l140, l152, l164, l176, l188, l200, l212, l224, l1604, l1880, l2000, l2008, l2016, l2024, l2032, l2040, l2048, l2210, l2240, l2270, l2300, l2330, l2390, l2450, l2510, l2570, l2590, l2620, l2650, l2660, l2700, T0, T1, Tm1, Tm99, Tm999, p_within, p_in, p_isCell, p_isOwner, p_isDay11, p_isDay12, p_isTap11, p_isTaker11, if_pos, if_neg, p_isTap12, p_isTaker12, p_isGone, zu1, zu2, zu3, nIe, Nat.reduceSub, T30, T999, mX11_shake_25]
  have hD := h.1.2.2.2.2.1
  have en := qCh_n hD
  have hb := hD.2 a (by omega)
  simp only [qVw_at w (show 93 < 102 by decide), Nat.reduceAdd] at en hb
  have qb : (w 94 7 >>> (nI a &&& 31)) &&& 1 = qBit (w 94 7) a := rfl
  have f1 := f_shake (w := w) a ha v
  have go : (qBit (w 94 7) a = 0 → (qCnt (w 94 7) 30).toInt < 6) → ∃ w2, mX12_shake_50 231 (nI a) v (zup (zup w 94 7 (w 94 7 ||| ((1 : Int32) <<< (nI a &&& 31)))) 100 a v) = some (qCnt (w 94 7 ||| ((1 : Int32) <<< (nI a &&& 31))) 32, w2) ∧ qInv (n + 1) w2 := by
    intro hn
    have hR := g_shake (c := qVw w 1) h.1 (a := a) (by omega) hv (by simp only [qVw_at w (show 93 < 102 by decide), Nat.reduceAdd]; exact hn)
    have f2 : mX12_shake_50 231 (nI a) v (zup (zup w 94 7 (w 94 7 ||| ((1 : Int32) <<< (nI a &&& 31)))) 100 a v) = some (qCnt (w 94 7 ||| ((1 : Int32) <<< (nI a &&& 31))) 32, zup (zup (zup (zup w 94 7 (w 94 7 ||| ((1 : Int32) <<< (nI a &&& 31)))) 100 a v) 232 (2590 + a) 1) 232 (2620 + a) v) := by
      unfold mX12_shake_50
      simp (disch := (first | omega | (simp (disch := omega) only [zu1, zu2, zu3, nIi]; omega))) only [if_true, if_false, zE10, zE00, zOkN, Nat.reduceAdd, Nat.reduceMul, zcl_s, zif01, zbn_e, nIi, nI_clamp, nI_add, nI_1, pk_mul, zgi, zlt, zle, Int32.zero_add, Int32.add_zero, C0, C1, G0, G1, Nat.zero_add, Nat.add_zero, l2, l3, l4, l5, l6, l7, l8, l10, l11, l12, l20, l30, l48, l50, l60, l100, l120, l140, l152, l164, l176, l188, l200, l212, l224, l1604, l1880, l2000, l2008, l2016, l2024, l2032, l2040, l2048, l2210, l2240, l2270, l2300, l2330, l2390, l2450, l2510, l2570, l2590, l2620, l2650, l2660, l2700, T0, T1, Tm1, Tm99, Tm999, p_within, p_in, p_isCell, p_isOwner, p_isDay11, p_isDay12, p_isTap11, p_isTaker11, if_pos, if_neg, p_isTap12, p_isTaker12, p_isGone, zu1, zu2, zu3, nIe, Nat.reduceSub]
      rw [s_shakes]
      have := qCh_n hR.2.2.2.2.1
      have e5 : qupc (qupc (qVw w 1) 93 7 (qVw w 1 93 7 ||| ((1 : Int32) <<< (nI a &&& 31)))) 99 a v 93 7 = w 94 7 ||| ((1 : Int32) <<< (nI a &&& 31)) := by
        rw [qc_ne2 _ _ (by omega)]; unfold qupc; rw [if_pos rfl, qu_eq, qVw_at w (by decide)]
      rw [e5] at this
      rw [← this, qup_s, qup_s, zpE _ _ _ (by decide), zpE _ _ _ (by decide)]
      rfl
    refine ⟨_, f2, ?_⟩
    refine h.of (Nat.le_succ n) (((((qFm.rf w).up _ _ (by decide) (by omega)).up _ _ (by decide) (by omega)).up _ _ (by decide) (by omega)).up _ _ (by decide) (by omega)) ?_ ?_
    · simp (disch := omega) only [qV1, qV3, qup_s, zpE, Nat.reduceSub, Nat.reduceAdd]
      simp only [qVw_at w (show 93 < 102 by decide), Nat.reduceAdd] at hR
      exact hR
    · simp (disch := omega) only [zu1, zu2]; exact Int.le_refl _
  have m1 : (-999 : Int32).toInt = -999 := by decide
  by_cases hb0 : qBit (w 94 7) a = 0
  · have hs : w 232 (2590 + a) = 0 := by rw [hb]; exact hb0
    have ec := qCnt_top (k := 30) (by decide) ⟨hD.1.1, hD.1.2.1⟩
    have h4 := hD.1.2.2
    simp only [qVw_at w (show 93 < 102 by decide), Nat.reduceAdd] at ec h4
    obtain ⟨k, hk, ek⟩ := qCnt_nat (x := w 94 7) 30 (by decide)
    rw [ek, nIi (by omega)] at h4
    rw [ec, ek] at en
    by_cases h4e : k = 6
    · subst h4e
      refine qBoth_id h (-4) ?_ ?_
      · unfold mX11_shake mX6_hasChange
        simp (disch := (first | omega | (simp (disch := omega) only [zu1, zu2, zu3, nIi, T30, T999, qb, hb0, mX6_hasChange_16]; omega))) only [if_true, if_false, zE10, zE00, zOkN, Nat.reduceAdd, Nat.reduceMul, zcl_s, zif01, zbn_e, nIi, nI_clamp, nI_add, nI_1, pk_mul, zgi, zlt, zle, Int32.zero_add, Int32.add_zero, C0, C1, G0, G1, Nat.zero_add, Nat.add_zero, l2, l3, l4, l5, l6, l7, l8, l10, l11, l12, l20, l30, l48, l50, l60, l100, l120, l140, l152, l164, l176, l188, l200, l212, l224, l1604, l1880, l2000, l2008, l2016, l2024, l2032, l2040, l2048, l2210, l2240, l2270, l2300, l2330, l2390, l2450, l2510, l2570, l2590, l2620, l2650, l2660, l2700, T0, T1, Tm1, Tm99, Tm999, p_within, p_in, p_isCell, p_isOwner, p_isDay11, p_isDay12, p_isTap11, p_isTaker11, if_pos, if_neg, p_isTap12, p_isTaker12, p_isGone, zu1, zu2, zu3, nIe, Nat.reduceSub, T30, T999, qb, hb0, mX6_hasChange_16]
        simp only [zgd_t zB0, zcl_s, if_true]
        simp (disch := (first | omega | (simp (disch := omega) only [zu1, zu2, zu3, nIi, s_changes11, ec, ek, T6]; omega))) only [if_true, if_false, zE10, zE00, zOkN, Nat.reduceAdd, Nat.reduceMul, zcl_s, zif01, zbn_e, nIi, nI_clamp, nI_add, nI_1, pk_mul, zgi, zlt, zle, Int32.zero_add, Int32.add_zero, C0, C1, G0, G1, Nat.zero_add, Nat.add_zero, l2, l3, l4, l5, l6, l7, l8, l10, l11, l12, l20, l30, l48, l50, l60, l100, l120, l140, l152, l164, l176, l188, l200, l212, l224, l1604, l1880, l2000, l2008, l2016, l2024, l2032, l2040, l2048, l2210, l2240, l2270, l2300, l2330, l2390, l2450, l2510, l2570, l2590, l2620, l2650, l2660, l2700, T0, T1, Tm1, Tm99, Tm999, p_within, p_in, p_isCell, p_isOwner, p_isDay11, p_isDay12, p_isTap11, p_isTaker11, if_pos, if_neg, p_isTap12, p_isTaker12, p_isGone, zu1, zu2, zu3, nIe, Nat.reduceSub, s_changes11, ec, ek, T6]
      · unfold mX12_shake
        simp (disch := (first | omega | (simp (disch := omega) only [zu1, zu2, zu3, nIi, T999, hs, s_shakes, en]; omega))) only [if_true, if_false, zE10, zE00, zOkN, Nat.reduceAdd, Nat.reduceMul, zcl_s, zif01, zbn_e, nIi, nI_clamp, nI_add, nI_1, pk_mul, zgi, zlt, zle, Int32.zero_add, Int32.add_zero, C0, C1, G0, G1, Nat.zero_add, Nat.add_zero, l2, l3, l4, l5, l6, l7, l8, l10, l11, l12, l20, l30, l48, l50, l60, l100, l120, l140, l152, l164, l176, l188, l200, l212, l224, l1604, l1880, l2000, l2008, l2016, l2024, l2032, l2040, l2048, l2210, l2240, l2270, l2300, l2330, l2390, l2450, l2510, l2570, l2590, l2620, l2650, l2660, l2700, T0, T1, Tm1, Tm99, Tm999, p_within, p_in, p_isCell, p_isOwner, p_isDay11, p_isDay12, p_isTap11, p_isTaker11, if_pos, if_neg, p_isTap12, p_isTaker12, p_isGone, zu1, zu2, zu3, nIe, Nat.reduceSub, T999, hs, s_shakes, en]
    · obtain ⟨w2, g2, g3⟩ := go (fun _ => by rw [ek, nIi (by omega)]; omega)
      refine ⟨_, _, w2, Eq.trans ?_ f1, ?_, g3⟩
      · unfold mX11_shake mX6_hasChange
        simp (disch := (first | omega | (simp (disch := omega) only [zu1, zu2, zu3, nIi, T30, T999, qb, hb0, mX6_hasChange_16]; omega))) only [if_true, if_false, zE10, zE00, zOkN, Nat.reduceAdd, Nat.reduceMul, zcl_s, zif01, zbn_e, nIi, nI_clamp, nI_add, nI_1, pk_mul, zgi, zlt, zle, Int32.zero_add, Int32.add_zero, C0, C1, G0, G1, Nat.zero_add, Nat.add_zero, l2, l3, l4, l5, l6, l7, l8, l10, l11, l12, l20, l30, l48, l50, l60, l100, l120, l140, l152, l164, l176, l188, l200, l212, l224, l1604, l1880, l2000, l2008, l2016, l2024, l2032, l2040, l2048, l2210, l2240, l2270, l2300, l2330, l2390, l2450, l2510, l2570, l2590, l2620, l2650, l2660, l2700, T0, T1, Tm1, Tm99, Tm999, p_within, p_in, p_isCell, p_isOwner, p_isDay11, p_isDay12, p_isTap11, p_isTaker11, if_pos, if_neg, p_isTap12, p_isTaker12, p_isGone, zu1, zu2, zu3, nIe, Nat.reduceSub, T30, T999, qb, hb0, mX6_hasChange_16]
        simp only [zgd_t zB0, zcl_s, if_true]
        simp (disch := (first | omega | (simp (disch := omega) only [zu1, zu2, zu3, nIi, s_changes11, ec, ek, T6]; omega))) only [if_true, if_false, zE10, zE00, zOkN, Nat.reduceAdd, Nat.reduceMul, zcl_s, zif01, zbn_e, nIi, nI_clamp, nI_add, nI_1, pk_mul, zgi, zlt, zle, Int32.zero_add, Int32.add_zero, C0, C1, G0, G1, Nat.zero_add, Nat.add_zero, l2, l3, l4, l5, l6, l7, l8, l10, l11, l12, l20, l30, l48, l50, l60, l100, l120, l140, l152, l164, l176, l188, l200, l212, l224, l1604, l1880, l2000, l2008, l2016, l2024, l2032, l2040, l2048, l2210, l2240, l2270, l2300, l2330, l2390, l2450, l2510, l2570, l2590, l2620, l2650, l2660, l2700, T0, T1, Tm1, Tm99, Tm999, p_within, p_in, p_isCell, p_isOwner, p_isDay11, p_isDay12, p_isTap11, p_isTaker11, if_pos, if_neg, p_isTap12, p_isTaker12, p_isGone, zu1, zu2, zu3, nIe, Nat.reduceSub, s_changes11, ec, ek, T6]
      · rw [← g2]
        have ew : ∀ x y : Int32, ∀ i, zup (zup w 94 7 x) 100 i y 232 = w 232 := fun x y i => by rw [zpE _ _ _ (by decide), zpE _ _ _ (by decide)]
        unfold mX12_shake
        simp (disch := (first | omega | (simp (disch := omega) only [zu1, zu2, zu3, nIi, T999, hs, s_shakes, en, ew]; omega))) only [if_true, if_false, zE10, zE00, zOkN, Nat.reduceAdd, Nat.reduceMul, zcl_s, zif01, zbn_e, nIi, nI_clamp, nI_add, nI_1, pk_mul, zgi, zlt, zle, Int32.zero_add, Int32.add_zero, C0, C1, G0, G1, Nat.zero_add, Nat.add_zero, l2, l3, l4, l5, l6, l7, l8, l10, l11, l12, l20, l30, l48, l50, l60, l100, l120, l140, l152, l164, l176, l188, l200, l212, l224, l1604, l1880, l2000, l2008, l2016, l2024, l2032, l2040, l2048, l2210, l2240, l2270, l2300, l2330, l2390, l2450, l2510, l2570, l2590, l2620, l2650, l2660, l2700, T0, T1, Tm1, Tm99, Tm999, p_within, p_in, p_isCell, p_isOwner, p_isDay11, p_isDay12, p_isTap11, p_isTaker11, if_pos, if_neg, p_isTap12, p_isTaker12, p_isGone, zu1, zu2, zu3, nIe, Nat.reduceSub, T999, hs, s_shakes, en, ew]
  · have hb1 : qBit (w 94 7) a = 1 := by
      rcases qBit01 (w 94 7) (show a < 32 by omega) with g | g
      · exact absurd g hb0
      · exact g
    have hs : ¬ w 232 (2590 + a) = 0 := by rw [hb]; exact hb0
    obtain ⟨w2, g2, g3⟩ := go (fun q => absurd q hb0)
    refine ⟨_, _, w2, Eq.trans ?_ f1, ?_, g3⟩
    · unfold mX11_shake mX6_hasChange
      simp (disch := (first | omega | (simp (disch := omega) only [zu1, zu2, zu3, nIi, T30, T999, qb, hb1, mX6_hasChange_16]; omega))) only [if_true, if_false, zE10, zE00, zOkN, Nat.reduceAdd, Nat.reduceMul, zcl_s, zif01, zbn_e, nIi, nI_clamp, nI_add, nI_1, pk_mul, zgi, zlt, zle, Int32.zero_add, Int32.add_zero, C0, C1, G0, G1, Nat.zero_add, Nat.add_zero, l2, l3, l4, l5, l6, l7, l8, l10, l11, l12, l20, l30, l48, l50, l60, l100, l120, l140, l152, l164, l176, l188, l200, l212, l224, l1604, l1880, l2000, l2008, l2016, l2024, l2032, l2040, l2048, l2210, l2240, l2270, l2300, l2330, l2390, l2450, l2510, l2570, l2590, l2620, l2650, l2660, l2700, T0, T1, Tm1, Tm99, Tm999, p_within, p_in, p_isCell, p_isOwner, p_isDay11, p_isDay12, p_isTap11, p_isTaker11, if_pos, if_neg, p_isTap12, p_isTaker12, p_isGone, zu1, zu2, zu3, nIe, Nat.reduceSub, T30, T999, qb, hb1, mX6_hasChange_16]
      simp only [zgd_t zB1, zcl_s, if_false, show ((1 : Int32) = 0) = False by simp]
    · rw [← g2]
      have ew : ∀ x y : Int32, ∀ i, zup (zup w 94 7 x) 100 i y 232 = w 232 := fun x y i => by rw [zpE _ _ _ (by decide), zpE _ _ _ (by decide)]
      unfold mX12_shake
      simp (disch := (first | omega | (simp (disch := omega) only [zu1, zu2, zu3, nIi, T999, hs, ew]; omega))) only [if_true, if_false, zE10, zE00, zOkN, Nat.reduceAdd, Nat.reduceMul, zcl_s, zif01, zbn_e, nIi, nI_clamp, nI_add, nI_1, pk_mul, zgi, zlt, zle, Int32.zero_add, Int32.add_zero, C0, C1, G0, G1, Nat.zero_add, Nat.add_zero, l2, l3, l4, l5, l6, l7, l8, l10, l11, l12, l20, l30, l48, l50, l60, l100, l120, l140, l152, l164, l176, l188, l200, l212, l224, l1604, l1880, l2000, l2008, l2016, l2024, l2032, l2040, l2048, l2210, l2240, l2270, l2300, l2330, l2390, l2450, l2510, l2570, l2590, l2620, l2650, l2660, l2700, T0, T1, Tm1, Tm99, Tm999, p_within, p_in, p_isCell, p_isOwner, p_isDay11, p_isDay12, p_isTap11, p_isTaker11, if_pos, if_neg, p_isTap12, p_isTaker12, p_isGone, zu1, zu2, zu3, nIe, Nat.reduceSub, T999, hs, ew]
