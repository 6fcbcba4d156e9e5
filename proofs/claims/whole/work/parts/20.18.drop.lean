theorem s_drops (w : zWd) : mX12_drops 231 w = some (qSum (fun t => if w 232 (2570 + t) = -1 then 0 else 1) 12, w) := by
  unfold mX12_drops mX12_drops_4
  refine zlp_to (P := fun i q => q = (qSum (fun t => if w 232 (2570 + t) = -1 then 0 else 1) i, nI i, w)) (n := 12) (by decide) ?_ rfl
  rintro i hi q rfl k hk
  simp only [mX12_drops_4b, mX12_drops_30]
  by_cases h : i = 12
  · subst h; simp (disch := (first | omega | (simp (disch := omega) only [zu1, zu2, zu3, nIi, T12]; omega))) only [if_true, if_false, zE10, zE00, zOkN, Nat.reduceAdd, Nat.reduceMul, zcl_s, zif01, zbn_e, nIi, nI_clamp, nI_add, nI_1, pk_mul, zgi, zlt, zle, Int32.zero_add, Int32.add_zero, C0, C1, G0, G1, Nat.zero_add, Nat.add_zero, l2, l3, l4, l5, l6, l7, l8, l10, l11, l12, l20, l30, l48, l50, l60, l100, l120, l140, l152, l164, l176, l188, l200, l212, l224, l1604, l1880, l2000, l2008, l2016, l2024, l2032, l2040, l2048, l2210, l2240, l2270, l2300, l2330, l2390, l2450, l2510, l2570, l2590, l2620, l2650, l2660, l2700, T0, T1, Tm1, Tm99, Tm999, p_within, p_in, p_isCell, p_isOwner, p_isDay11, p_isDay12, p_isTap11, p_isTaker11, if_pos, if_neg, p_isTap12, p_isTaker12, p_isGone, zu1, zu2, zu3, nIe, Nat.reduceSub, T12]
  · by_cases g : w 232 (2570 + i) = -1
    · simp (disch := (first | omega | (simp (disch := omega) only [zu1, zu2, zu3, nIi, T12, l2570, g]; omega))) only [if_true, if_false, zE10, zE00, zOkN, Nat.reduceAdd, Nat.reduceMul, zcl_s, zif01, zbn_e, nIi, nI_clamp, nI_add, nI_1, pk_mul, zgi, zlt, zle, Int32.zero_add, Int32.add_zero, C0, C1, G0, G1, Nat.zero_add, Nat.add_zero, l2, l3, l4, l5, l6, l7, l8, l10, l11, l12, l20, l30, l48, l50, l60, l100, l120, l140, l152, l164, l176, l188, l200, l212, l224, l1604, l1880, l2000, l2008, l2016, l2024, l2032, l2040, l2048, l2210, l2240, l2270, l2300, l2330, l2390, l2450, l2510, l2570, l2590, l2620, l2650, l2660, l2700, T0, T1, Tm1, Tm99, Tm999, p_within, p_in, p_isCell, p_isOwner, p_isDay11, p_isDay12, p_isTap11, p_isTaker11, if_pos, if_neg, p_isTap12, p_isTaker12, p_isGone, zu1, zu2, zu3, nIe, Nat.reduceSub, T12, l2570, g]
      refine hk (by omega) _ ?_
      show _ = (qSum (fun t => if w 232 (2570 + t) = -1 then 0 else 1) i + (if w 232 (2570 + i) = -1 then 0 else 1), nI (i + 1), w)
      rw [if_pos g, Int32.add_zero]
    · simp (disch := (first | omega | (simp (disch := omega) only [zu1, zu2, zu3, nIi, T12, l2570, g]; omega))) only [if_true, if_false, zE10, zE00, zOkN, Nat.reduceAdd, Nat.reduceMul, zcl_s, zif01, zbn_e, nIi, nI_clamp, nI_add, nI_1, pk_mul, zgi, zlt, zle, Int32.zero_add, Int32.add_zero, C0, C1, G0, G1, Nat.zero_add, Nat.add_zero, l2, l3, l4, l5, l6, l7, l8, l10, l11, l12, l20, l30, l48, l50, l60, l100, l120, l140, l152, l164, l176, l188, l200, l212, l224, l1604, l1880, l2000, l2008, l2016, l2024, l2032, l2040, l2048, l2210, l2240, l2270, l2300, l2330, l2390, l2450, l2510, l2570, l2590, l2620, l2650, l2660, l2700, T0, T1, Tm1, Tm99, Tm999, p_within, p_in, p_isCell, p_isOwner, p_isDay11, p_isDay12, p_isTap11, p_isTaker11, if_pos, if_neg, p_isTap12, p_isTaker12, p_isGone, zu1, zu2, zu3, nIe, Nat.reduceSub, T12, l2570, g]
      refine hk (by omega) _ ?_
      show _ = (qSum (fun t => if w 232 (2570 + t) = -1 then 0 else 1) i + (if w 232 (2570 + i) = -1 then 0 else 1), nI (i + 1), w)
      rw [if_neg g]
theorem s_shakes (w : zWd) : mX12_shakes 231 w = some (qSum (fun t => w 232 (2590 + t)) 30, w) := by
  unfold mX12_shakes mX12_shakes_4
  refine zlp_to (P := fun i q => q = (qSum (fun t => w 232 (2590 + t)) i, nI i, w)) (n := 30) (by decide) ?_ rfl
  rintro i hi q rfl k hk
  simp only [mX12_shakes_4b]
  by_cases h : i = 30
  · subst h; simp (disch := (first | omega | (simp (disch := omega) only [zu1, zu2, zu3, nIi, T30]; omega))) only [if_true, if_false, zE10, zE00, zOkN, Nat.reduceAdd, Nat.reduceMul, zcl_s, zif01, zbn_e, nIi, nI_clamp, nI_add, nI_1, pk_mul, zgi, zlt, zle, Int32.zero_add, Int32.add_zero, C0, C1, G0, G1, Nat.zero_add, Nat.add_zero, l2, l3, l4, l5, l6, l7, l8, l10, l11, l12, l20, l30, l48, l50, l60, l100, l120, l140, l152, l164, l176, l188, l200, l212, l224, l1604, l1880, l2000, l2008, l2016, l2024, l2032, l2040, l2048, l2210, l2240, l2270, l2300, l2330, l2390, l2450, l2510, l2570, l2590, l2620, l2650, l2660, l2700, T0, T1, Tm1, Tm99, Tm999, p_within, p_in, p_isCell, p_isOwner, p_isDay11, p_isDay12, p_isTap11, p_isTaker11, if_pos, if_neg, p_isTap12, p_isTaker12, p_isGone, zu1, zu2, zu3, nIe, Nat.reduceSub, T30]
  · simp (disch := (first | omega | (simp (disch := omega) only [zu1, zu2, zu3, nIi, T30, l2590]; omega))) only [if_true, if_false, zE10, zE00, zOkN, Nat.reduceAdd, Nat.reduceMul, zcl_s, zif01, zbn_e, nIi, nI_clamp, nI_add, nI_1, pk_mul, zgi, zlt, zle, Int32.zero_add, Int32.add_zero, C0, C1, G0, G1, Nat.zero_add, Nat.add_zero, l2, l3, l4, l5, l6, l7, l8, l10, l11, l12, l20, l30, l48, l50, l60, l100, l120, l140, l152, l164, l176, l188, l200, l212, l224, l1604, l1880, l2000, l2008, l2016, l2024, l2032, l2040, l2048, l2210, l2240, l2270, l2300, l2330, l2390, l2450, l2510, l2570, l2590, l2620, l2650, l2660, l2700, T0, T1, Tm1, Tm99, Tm999, p_within, p_in, p_isCell, p_isOwner, p_isDay11, p_isDay12, p_isTap11, p_isTaker11, if_pos, if_neg, p_isTap12, p_isTaker12, p_isGone, zu1, zu2, zu3, nIe, Nat.reduceSub, T30, l2590]; exact hk (by omega) _ rfl
theorem s_drops11 (w : zWd) : mX6_drops 94 w = some (qCnt (w 94 5) 32, w) := by unfold mX6_drops; rw [bc_w]; rfl
theorem s_changes11 (w : zWd) : mX6_changes 94 w = some (qCnt (w 94 7) 32, w) := by unfold mX6_changes; rw [bc_w]; rfl
/-- so many drops on either side -/
theorem qDr_n {c : Nat → Nat → Int32} {s : Nat → Int32} (h : qDr c s) : qSum (fun t => if s (2570 + t) = -1 then 0 else 1) 12 = qCnt (c 93 5) 32 := by
  rw [qCnt_top (k := 12) (by decide) ⟨h.1.1, h.1.2.1⟩, qCnt_s]
  refine qSum_c (fun t ht => ?_)
  rcases h.2 t ht with ⟨g1, g2, g3, g4⟩ | ⟨g1, g2⟩
  · rw [g1, if_neg (by intro e; rw [e] at g3; exact absurd g3 (by decide))]
  · rw [g1, if_pos g2]
theorem qCh_n {c : Nat → Nat → Int32} {s : Nat → Int32} (h : qCh c s) : qSum (fun t => s (2590 + t)) 30 = qCnt (c 93 7) 32 := by
  rw [qCnt_top (k := 30) (by decide) ⟨h.1.1, h.1.2.1⟩, qCnt_s]
  exact qSum_c (fun t ht => h.2 t ht)
theorem g_drop {c : Nat → Nat → Int32} {s p : Nat → Int32} (h : qRl c s p) {a : Nat} (ha : (a : Int) < (s 1).toInt) (ha2 : a < 12) {v : Int32} (hv : 0 ≤ v.toInt ∧ v.toInt ≤ 999) (hn : qBit (c 93 5) a = 0 → (qCnt (c 93 5) 12).toInt < 4) :
    qRl (qupc (qupc c 93 5 (c 93 5 ||| ((1 : Int32) <<< (nI a &&& 31)))) 98 a v) (upd s (2570 + a) v) p := by
  obtain ⟨hT, hG, hTp, hD, hC, hP, hL, hO⟩ := h
  have h10 := (qRg_at hG 2 rfl (i := 0) (by decide)).2
  have h10b : ((upd s (2570 + a) v) 2).toInt ≤ 10 := by rw [qu_ne s v (show 2 ≠ 2570 + a by omega)]; exact h10
  refine ⟨qTb_s (qTb_c (qTb_c hT (o := 93) (lo := 5) (hi := 6) (by decide) (by omega) (by omega) _) (o := 98) (lo := 0) (hi := 12) (by decide) (by omega) (by omega) _) (lo := 2570) (hi := 2582) (by decide) (by omega) (by omega) v, qRg_s hG (lo := 2570) (hi := 2582) (by decide) (by omega) (by omega) v, ((hTp.s_ (by omega)).c_ (by omega)).c_ (by omega), ?_, ((hC.s_ (by omega)).c_ (by omega)).c_ (by omega), hP.s_ (by omega), hL.s_ (by omega), ((hO.s_ h10 (by omega)).c_ h10b (by omega)).c_ h10b (by omega)⟩
  have e5 : qupc (qupc c 93 5 (c 93 5 ||| ((1 : Int32) <<< (nI a &&& 31)))) 98 a v 93 5 = c 93 5 ||| ((1 : Int32) <<< (nI a &&& 31)) := by
    rw [qc_ne2 _ _ (by omega)]; unfold qupc; rw [if_pos rfl, qu_eq]
  unfold qDr
  rw [e5]
  have hr := or_rng (t := a) (k := 12) (by decide) ha2 ⟨hD.1.1, hD.1.2.1⟩
  refine ⟨⟨hr.1, hr.2, ?_⟩, fun t ht => ?_⟩
  · rw [qCnt_or 12 (by decide) (by omega)]
    obtain ⟨k, hk, ek⟩ := qCnt_nat (x := c 93 5) 12 (by decide)
    by_cases g : qBit (c 93 5) a = 0
    · rw [if_pos ⟨ha2, g⟩]
      have := hn g
      rw [ek] at this ⊢
      rw [nI_1, nIi (by omega)]
      rw [nIi (by omega)] at this
      omega
    · rw [if_neg (by rintro ⟨_, q⟩; exact g q)]; exact hD.1.2.2
  · rw [qBit_or _ (by omega) (by omega), qu_ne s v (show 1 ≠ 2570 + a by omega)]
    by_cases et : t = a
    · subst et
      have e98 : ∀ x, qupc x 98 t v 98 t = v := fun x => by unfold qupc; rw [if_pos rfl, qu_eq]
      rw [if_pos rfl, qu_eq, e98]
      exact Or.inl ⟨rfl, rfl, hv.1, hv.2, ha⟩
    · rw [if_neg et, qu_ne s v (by omega), qc_ne2 _ _ (by omega), qc_ne2 _ _ (by omega)]
      exact hD.2 t ht
theorem u_drop {n : Nat} {w : zWd} (h : qInv n w) (a v : Int32) : qBoth n w (mX11_drop 0 a v) (mX12_drop 231 a v) := by
  obtain ⟨T, hT, e1, e2⟩ := q_taps h
  have e3 : (w 232 1).toInt = T := by rw [e2, nIi (by omega)]
  rcases zX a T T rfl (by omega) with ha | ⟨a, ha, rfl⟩
  · exact qBoth_id h (-1) (by unfold mX11_drop; simp (disch := (first | omega | (simp (disch := omega) only [zu1, zu2, zu3, nIi, T999, e1]; omega))) only [if_true, if_false, zE10, zE00, zOkN, Nat.reduceAdd, Nat.reduceMul, zcl_s, zif01, zbn_e, nIi, nI_clamp, nI_add, nI_1, pk_mul, zgi, zlt, zle, Int32.zero_add, Int32.add_zero, C0, C1, G0, G1, Nat.zero_add, Nat.add_zero, l2, l3, l4, l5, l6, l7, l8, l10, l11, l12, l20, l30, l48, l50, l60, l100, l120, l140, l152, l164, l176, l188, l200, l212, l224, l1604, l1880, l2000, l2008, l2016, l2024, l2032, l2040, l2048, l2210, l2240, l2270, l2300, l2330, l2390, l2450, l2510, l2570, l2590, l2620, l2650, l2660, l2700, T0, T1, Tm1, Tm99, Tm999, p_within, p_in, p_isCell, p_isOwner, p_isDay11, p_isDay12, p_isTap11, p_isTaker11, if_pos, if_neg, p_isTap12, p_isTaker12, p_isGone, zu1, zu2, zu3, nIe, Nat.reduceSub, T999, e1]) (by unfold mX12_drop; simp (disch := (first | omega | (simp (disch := omega) only [zu1, zu2, zu3, nIi, T999, e2]; omega))) only [if_true, if_false, zE10, zE00, zOkN, Nat.reduceAdd, Nat.reduceMul, zcl_s, zif01, zbn_e, nIi, nI_clamp, nI_add, nI_1, pk_mul, zgi, zlt, zle, Int32.zero_add, Int32.add_zero, C0, C1, G0, G1, Nat.zero_add, Nat.add_zero, l2, l3, l4, l5, l6, l7, l8, l10, l11, l12, l20, l30, l48, l50, l60, l100, l120, l140, l152, l164, l176, l188, l200, l212, l224, l1604, l1880, l2000, l2008, l2016, l2024, l2032, l2040, l2048, l2210, l2240, l2270, l2300, l2330, l2390, l2450, l2510, l2570, l2590, l2620, l2650, l2660, l2700, T0, T1, Tm1, Tm99, Tm999, p_within, p_in, p_isCell, p_isOwner, p_isDay11, p_isDay12, p_isTap11, p_isTaker11, if_pos, if_neg, p_isTap12, p_isTaker12, p_isGone, zu1, zu2, zu3, nIe, Nat.reduceSub, T999, e2])
  by_cases hv : 0 ≤ v.toInt ∧ v.toInt ≤ 999
  rotate_left
  · refine qBoth_id h (-2) ?_ (by unfold mX12_drop; simp (disch := (first | omega | (simp (disch := omega) only [zu1, zu2, zu3, nIi, T999, e2]; omega))) only [if_true, if_false, zE10, zE00, zOkN, Nat.reduceAdd, Nat.reduceMul, zcl_s, zif01, zbn_e, nIi, nI_clamp, nI_add, nI_1, pk_mul, zgi, zlt, zle, Int32.zero_add, Int32.add_zero, C0, C1, G0, G1, Nat.zero_add, Nat.add_zero, l2, l3, l4, l5, l6, l7, l8, l10, l11, l12, l20, l30, l48, l50, l60, l100, l120, l140, l152, l164, l176, l188, l200, l212, l224, l1604, l1880, l2000, l2008, l2016, l2024, l2032, l2040, l2048, l2210, l2240, l2270, l2300, l2330, l2390, l2450, l2510, l2570, l2590, l2620, l2650, l2660, l2700, T0, T1, Tm1, Tm99, Tm999, p_within, p_in, p_isCell, p_isOwner, p_isDay11, p_isDay12, p_isTap11, p_isTaker11, if_pos, if_neg, p_isTap12, p_isTaker12, p_isGone, zu1, zu2, zu3, nIe, Nat.reduceSub, T999, e2])
    unfold mX11_drop
    by_cases h1 : v.toInt < 0
    · simp (disch := (first | omega | (simp (disch := omega) only [zu1, zu2, zu3, nIi, T999, e1, mX11_drop_21]; omega))) only [if_true, if_false, zE10, zE00, zOkN, Nat.reduceAdd, Nat.reduceMul, zcl_s, zif01, zbn_e, nIi, nI_clamp, nI_add, nI_1, pk_mul, zgi, zlt, zle, Int32.zero_add, Int32.add_zero, C0, C1, G0, G1, Nat.zero_add, Nat.add_zero, l2, l3, l4, l5, l6, l7, l8, l10, l11, l12, l20, l30, l48, l50, l60, l100, l120, l140, l152, l164, l176, l188, l200, l212, l224, l1604, l1880, l2000, l2008, l2016, l2024, l2032, l2040, l2048, l2210, l2240, l2270, l2300, l2330, l2390, l2450, l2510, l2570, l2590, l2620, l2650, l2660, l2700, T0, T1, Tm1, Tm99, Tm999, p_within, p_in, p_isCell, p_isOwner, p_isDay11, p_isDay12, p_isTap11, p_isTaker11, if_pos, if_neg, p_isTap12, p_isTaker12, p_isGone, zu1, zu2, zu3, nIe, Nat.reduceSub, T999, e1, mX11_drop_21]
    · simp (disch := (first | omega | (simp (disch := omega) only [zu1, zu2, zu3, nIi, T999, e1, mX11_drop_21]; omega))) only [if_true, if_false, zE10, zE00, zOkN, Nat.reduceAdd, Nat.reduceMul, zcl_s, zif01, zbn_e, nIi, nI_clamp, nI_add, nI_1, pk_mul, zgi, zlt, zle, Int32.zero_add, Int32.add_zero, C0, C1, G0, G1, Nat.zero_add, Nat.add_zero, l2, l3, l4, l5, l6, l7, l8, l10, l11, l12, l20, l30, l48, l50, l60, l100, l120, l140, l152, l164, l176, l188, l200, l212, l224, l1604, l1880, l2000, l2008, l2016, l2024, l2032, l2040, l2048, l2210, l2240, l2270, l2300, l2330, l2390, l2450, l2510, l2570, l2590, l2620, l2650, l2660, l2700, T0, T1, Tm1, Tm99, Tm999, p_within, p_in, p_isCell, p_isOwner, p_isDay11, p_isDay12, p_isTap11, p_isTaker11, if_pos, if_neg, p_isTap12, p_isTaker12, p_isGone, zu1, zu2, zu3, nIe, Nat.reduceSub, T999, e1, mX11_drop_21]
  have hD := h.1.2.2.2.1
  have en := qDr_n hD
  have hb := hD.2 a (by omega)
  simp only [qVw_at w (show 93 < 102 by decide), Nat.reduceAdd] at en hb
  have qb : (w 94 5 >>> (nI a &&& 31)) &&& 1 = qBit (w 94 5) a := rfl
  have go : (qBit (w 94 5) a = 0 → (qCnt (w 94 5) 12).toInt < 4) → qBoth n w (mX11_drop_55 0 (nI a) v) (mX12_drop_49 231 (nI a) v) := by
    intro hn
    have hR := g_drop (c := qVw w 1) h.1 (a := a) (by omega) (by omega) hv (by simp only [qVw_at w (show 93 < 102 by decide), Nat.reduceAdd]; exact hn)
    have f1 : mX11_drop_55 0 (nI a) v w = some (qCnt (w 94 5 ||| ((1 : Int32) <<< (nI a &&& 31))) 32, zup (zup w 94 5 (w 94 5 ||| ((1 : Int32) <<< (nI a &&& 31)))) 99 a v) := by
      unfold mX11_drop_55 mX6_setDrop
      simp (disch := (first | omega | (simp (disch := omega) only [zu1, zu2, zu3, nIi]; omega))) only [if_true, if_false, zE10, zE00, zOkN, Nat.reduceAdd, Nat.reduceMul, zcl_s, zif01, zbn_e, nIi, nI_clamp, nI_add, nI_1, pk_mul, zgi, zlt, zle, Int32.zero_add, Int32.add_zero, C0, C1, G0, G1, Nat.zero_add, Nat.add_zero, l2, l3, l4, l5, l6, l7, l8, l10, l11, l12, l20, l30, l48, l50, l60, l100, l120, l140, l152, l164, l176, l188, l200, l212, l224, l1604, l1880, l2000, l2008, l2016, l2024, l2032, l2040, l2048, l2210, l2240, l2270, l2300, l2330, l2390, l2450, l2510, l2570, l2590, l2620, l2650, l2660, l2700, T0, T1, Tm1, Tm99, Tm999, p_within, p_in, p_isCell, p_isOwner, p_isDay11, p_isDay12, p_isTap11, p_isTaker11, if_pos, if_neg, p_isTap12, p_isTaker12, p_isGone, zu1, zu2, zu3, nIe, Nat.reduceSub]
      rw [s_drops11]
      simp (disch := (first | omega | (simp (disch := omega) only [zu1, zu2, zu3, nIi]; omega))) only [if_true, if_false, zE10, zE00, zOkN, Nat.reduceAdd, Nat.reduceMul, zcl_s, zif01, zbn_e, nIi, nI_clamp, nI_add, nI_1, pk_mul, zgi, zlt, zle, Int32.zero_add, Int32.add_zero, C0, C1, G0, G1, Nat.zero_add, Nat.add_zero, l2, l3, l4, l5, l6, l7, l8, l10, l11, l12, l20, l30, l48, l50, l60, l100, l120, l140, l152, l164, l176, l188, l200, l212, l224, l1604, l1880, l2000, l2008, l2016, l2024, l2032, l2040, l2048, l2210, l2240, l2270, l2300, l2330, l2390, l2450, l2510, l2570, l2590, l2620, l2650, l2660, l2700, T0, T1, Tm1, Tm99, Tm999, p_within, p_in, p_isCell, p_isOwner, p_isDay11, p_isDay12, p_isTap11, p_isTaker11, if_pos, if_neg, p_isTap12, p_isTaker12, p_isGone, zu1, zu2, zu3, nIe, Nat.reduceSub]
    have f2 : mX12_drop_49 231 (nI a) v (zup (zup w 94 5 (w 94 5 ||| ((1 : Int32) <<< (nI a &&& 31)))) 99 a v) = some (qCnt (w 94 5 ||| ((1 : Int32) <<< (nI a &&& 31))) 32, zup (zup (zup w 94 5 (w 94 5 ||| ((1 : Int32) <<< (nI a &&& 31)))) 99 a v) 232 (2570 + a) v) := by
      unfold mX12_drop_49
      simp (disch := (first | omega | (simp (disch := omega) only [zu1, zu2, zu3, nIi]; omega))) only [if_true, if_false, zE10, zE00, zOkN, Nat.reduceAdd, Nat.reduceMul, zcl_s, zif01, zbn_e, nIi, nI_clamp, nI_add, nI_1, pk_mul, zgi, zlt, zle, Int32.zero_add, Int32.add_zero, C0, C1, G0, G1, Nat.zero_add, Nat.add_zero, l2, l3, l4, l5, l6, l7, l8, l10, l11, l12, l20, l30, l48, l50, l60, l100, l120, l140, l152, l164, l176, l188, l200, l212, l224, l1604, l1880, l2000, l2008, l2016, l2024, l2032, l2040, l2048, l2210, l2240, l2270, l2300, l2330, l2390, l2450, l2510, l2570, l2590, l2620, l2650, l2660, l2700, T0, T1, Tm1, Tm99, Tm999, p_within, p_in, p_isCell, p_isOwner, p_isDay11, p_isDay12, p_isTap11, p_isTaker11, if_pos, if_neg, p_isTap12, p_isTaker12, p_isGone, zu1, zu2, zu3, nIe, Nat.reduceSub]
      rw [s_drops]
      have := qDr_n hR.2.2.2.1
      have e5 : qupc (qupc (qVw w 1) 93 5 (qVw w 1 93 5 ||| ((1 : Int32) <<< (nI a &&& 31)))) 98 a v 93 5 = w 94 5 ||| ((1 : Int32) <<< (nI a &&& 31)) := by
        rw [qc_ne2 _ _ (by omega)]; unfold qupc; rw [if_pos rfl, qu_eq, qVw_at w (by decide)]
      rw [e5] at this
      rw [← this, qup_s, zpE _ _ _ (by decide), zpE _ _ _ (by decide)]
      rfl
    refine ⟨_, _, _, f1, f2, ?_⟩
    refine h.of (Nat.le_succ n) ((((qFm.rf w).up _ _ (by decide) (by omega)).up _ _ (by decide) (by omega)).up _ _ (by decide) (by omega)) ?_ ?_
    · simp (disch := omega) only [qV1, qV3, qup_s, zpE, Nat.reduceSub, Nat.reduceAdd]
      simp only [qVw_at w (show 93 < 102 by decide), Nat.reduceAdd] at hR
      exact hR
    · simp (disch := omega) only [zu1, zu2]; exact Int.le_refl _
  by_cases hb0 : qBit (w 94 5) a = 0
  · have hs : w 232 (2570 + a) = -1 := by
      rcases hb with ⟨g1, _⟩ | ⟨_, g2⟩
      · rw [g1] at hb0; exact absurd hb0 (by decide)
      · exact g2
    have ec := qCnt_top (k := 12) (by decide) ⟨hD.1.1, hD.1.2.1⟩
    have h4 := hD.1.2.2
    simp only [qVw_at w (show 93 < 102 by decide), Nat.reduceAdd] at ec h4
    obtain ⟨k, hk, ek⟩ := qCnt_nat (x := w 94 5) 12 (by decide)
    rw [ek, nIi (by omega)] at h4
    rw [ec, ek] at en
    by_cases h4e : k = 4
    · subst h4e
      refine qBoth_id h (-4) ?_ ?_
      · unfold mX11_drop mX6_hasDrop
        simp (disch := (first | omega | (simp (disch := omega) only [zu1, zu2, zu3, nIi, T999, e1, qb, hb0, mX6_hasDrop_16]; omega))) only [if_true, if_false, zE10, zE00, zOkN, Nat.reduceAdd, Nat.reduceMul, zcl_s, zif01, zbn_e, nIi, nI_clamp, nI_add, nI_1, pk_mul, zgi, zlt, zle, Int32.zero_add, Int32.add_zero, C0, C1, G0, G1, Nat.zero_add, Nat.add_zero, l2, l3, l4, l5, l6, l7, l8, l10, l11, l12, l20, l30, l48, l50, l60, l100, l120, l140, l152, l164, l176, l188, l200, l212, l224, l1604, l1880, l2000, l2008, l2016, l2024, l2032, l2040, l2048, l2210, l2240, l2270, l2300, l2330, l2390, l2450, l2510, l2570, l2590, l2620, l2650, l2660, l2700, T0, T1, Tm1, Tm99, Tm999, p_within, p_in, p_isCell, p_isOwner, p_isDay11, p_isDay12, p_isTap11, p_isTaker11, if_pos, if_neg, p_isTap12, p_isTaker12, p_isGone, zu1, zu2, zu3, nIe, Nat.reduceSub, T999, e1, qb, hb0, mX6_hasDrop_16]
        simp only [zgd_t zB0, zcl_s, if_true]
        simp (disch := (first | omega | (simp (disch := omega) only [zu1, zu2, zu3, nIi, s_drops11, ec, ek, T4]; omega))) only [if_true, if_false, zE10, zE00, zOkN, Nat.reduceAdd, Nat.reduceMul, zcl_s, zif01, zbn_e, nIi, nI_clamp, nI_add, nI_1, pk_mul, zgi, zlt, zle, Int32.zero_add, Int32.add_zero, C0, C1, G0, G1, Nat.zero_add, Nat.add_zero, l2, l3, l4, l5, l6, l7, l8, l10, l11, l12, l20, l30, l48, l50, l60, l100, l120, l140, l152, l164, l176, l188, l200, l212, l224, l1604, l1880, l2000, l2008, l2016, l2024, l2032, l2040, l2048, l2210, l2240, l2270, l2300, l2330, l2390, l2450, l2510, l2570, l2590, l2620, l2650, l2660, l2700, T0, T1, Tm1, Tm99, Tm999, p_within, p_in, p_isCell, p_isOwner, p_isDay11, p_isDay12, p_isTap11, p_isTaker11, if_pos, if_neg, p_isTap12, p_isTaker12, p_isGone, zu1, zu2, zu3, nIe, Nat.reduceSub, s_drops11, ec, ek, T4]
      · unfold mX12_drop
        simp (disch := (first | omega | (simp (disch := omega) only [zu1, zu2, zu3, nIi, T999, e2, hs, s_drops, en]; omega))) only [if_true, if_false, zE10, zE00, zOkN, Nat.reduceAdd, Nat.reduceMul, zcl_s, zif01, zbn_e, nIi, nI_clamp, nI_add, nI_1, pk_mul, zgi, zlt, zle, Int32.zero_add, Int32.add_zero, C0, C1, G0, G1, Nat.zero_add, Nat.add_zero, l2, l3, l4, l5, l6, l7, l8, l10, l11, l12, l20, l30, l48, l50, l60, l100, l120, l140, l152, l164, l176, l188, l200, l212, l224, l1604, l1880, l2000, l2008, l2016, l2024, l2032, l2040, l2048, l2210, l2240, l2270, l2300, l2330, l2390, l2450, l2510, l2570, l2590, l2620, l2650, l2660, l2700, T0, T1, Tm1, Tm99, Tm999, p_within, p_in, p_isCell, p_isOwner, p_isDay11, p_isDay12, p_isTap11, p_isTaker11, if_pos, if_neg, p_isTap12, p_isTaker12, p_isGone, zu1, zu2, zu3, nIe, Nat.reduceSub, T999, e2, hs, s_drops, en]
    · have f1 : mX11_drop 0 (nI a) v w = mX11_drop_55 0 (nI a) v w := by
        unfold mX11_drop mX6_hasDrop
        simp (disch := (first | omega | (simp (disch := omega) only [zu1, zu2, zu3, nIi, T999, e1, qb, hb0, mX6_hasDrop_16]; omega))) only [if_true, if_false, zE10, zE00, zOkN, Nat.reduceAdd, Nat.reduceMul, zcl_s, zif01, zbn_e, nIi, nI_clamp, nI_add, nI_1, pk_mul, zgi, zlt, zle, Int32.zero_add, Int32.add_zero, C0, C1, G0, G1, Nat.zero_add, Nat.add_zero, l2, l3, l4, l5, l6, l7, l8, l10, l11, l12, l20, l30, l48, l50, l60, l100, l120, l140, l152, l164, l176, l188, l200, l212, l224, l1604, l1880, l2000, l2008, l2016, l2024, l2032, l2040, l2048, l2210, l2240, l2270, l2300, l2330, l2390, l2450, l2510, l2570, l2590, l2620, l2650, l2660, l2700, T0, T1, Tm1, Tm99, Tm999, p_within, p_in, p_isCell, p_isOwner, p_isDay11, p_isDay12, p_isTap11, p_isTaker11, if_pos, if_neg, p_isTap12, p_isTaker12, p_isGone, zu1, zu2, zu3, nIe, Nat.reduceSub, T999, e1, qb, hb0, mX6_hasDrop_16]
        simp only [zgd_t zB0, zcl_s, if_true]
        simp (disch := (first | omega | (simp (disch := omega) only [zu1, zu2, zu3, nIi, s_drops11, ec, ek, T4]; omega))) only [if_true, if_false, zE10, zE00, zOkN, Nat.reduceAdd, Nat.reduceMul, zcl_s, zif01, zbn_e, nIi, nI_clamp, nI_add, nI_1, pk_mul, zgi, zlt, zle, Int32.zero_add, Int32.add_zero, C0, C1, G0, G1, Nat.zero_add, Nat.add_zero, l2, l3, l4, l5, l6, l7, l8, l10, l11, l12, l20, l30, l48, l50, l60, l100, l120, l140, l152, l164, l176, l188, l200, l212, l224, l1604, l1880, l2000, l2008, l2016, l2024, l2032, l2040, l2048, l2210, l2240, l2270, l2300, l2330, l2390, l2450, l2510, l2570, l2590, l2620, l2650, l2660, l2700, T0, T1, Tm1, Tm99, Tm999, p_within, p_in, p_isCell, p_isOwner, p_isDay11, p_isDay12, p_isTap11, p_isTaker11, if_pos, if_neg, p_isTap12, p_isTaker12, p_isGone, zu1, zu2, zu3, nIe, Nat.reduceSub, s_drops11, ec, ek, T4]
      obtain ⟨r, w1, w2, g1, g2, g3⟩ := go (fun _ => by rw [ek, nIi (by omega)]; omega)
      refine ⟨r, w1, w2, f1.trans g1, ?_, g3⟩
      rw [← g2]
      have ew : w1 232 = w 232 := by
        have : mX11_drop_55 0 (nI a) v w = some (qCnt (w 94 5 ||| ((1 : Int32) <<< (nI a &&& 31))) 32, zup (zup w 94 5 (w 94 5 ||| ((1 : Int32) <<< (nI a &&& 31)))) 99 a v) := by
          unfold mX11_drop_55 mX6_setDrop
          simp (disch := (first | omega | (simp (disch := omega) only [zu1, zu2, zu3, nIi]; omega))) only [if_true, if_false, zE10, zE00, zOkN, Nat.reduceAdd, Nat.reduceMul, zcl_s, zif01, zbn_e, nIi, nI_clamp, nI_add, nI_1, pk_mul, zgi, zlt, zle, Int32.zero_add, Int32.add_zero, C0, C1, G0, G1, Nat.zero_add, Nat.add_zero, l2, l3, l4, l5, l6, l7, l8, l10, l11, l12, l20, l30, l48, l50, l60, l100, l120, l140, l152, l164, l176, l188, l200, l212, l224, l1604, l1880, l2000, l2008, l2016, l2024, l2032, l2040, l2048, l2210, l2240, l2270, l2300, l2330, l2390, l2450, l2510, l2570, l2590, l2620, l2650, l2660, l2700, T0, T1, Tm1, Tm99, Tm999, p_within, p_in, p_isCell, p_isOwner, p_isDay11, p_isDay12, p_isTap11, p_isTaker11, if_pos, if_neg, p_isTap12, p_isTaker12, p_isGone, zu1, zu2, zu3, nIe, Nat.reduceSub]
          rw [s_drops11]
          simp (disch := (first | omega | (simp (disch := omega) only [zu1, zu2, zu3, nIi]; omega))) only [if_true, if_false, zE10, zE00, zOkN, Nat.reduceAdd, Nat.reduceMul, zcl_s, zif01, zbn_e, nIi, nI_clamp, nI_add, nI_1, pk_mul, zgi, zlt, zle, Int32.zero_add, Int32.add_zero, C0, C1, G0, G1, Nat.zero_add, Nat.add_zero, l2, l3, l4, l5, l6, l7, l8, l10, l11, l12, l20, l30, l48, l50, l60, l100, l120, l140, l152, l164, l176, l188, l200, l212, l224, l1604, l1880, l2000, l2008, l2016, l2024, l2032, l2040, l2048, l2210, l2240, l2270, l2300, l2330, l2390, l2450, l2510, l2570, l2590, l2620, l2650, l2660, l2700, T0, T1, Tm1, Tm99, Tm999, p_within, p_in, p_isCell, p_isOwner, p_isDay11, p_isDay12, p_isTap11, p_isTaker11, if_pos, if_neg, p_isTap12, p_isTaker12, p_isGone, zu1, zu2, zu3, nIe, Nat.reduceSub]
        rw [this] at g1
        cases g1
        rw [zpE _ _ _ (by decide), zpE _ _ _ (by decide)]
      unfold mX12_drop
      simp (disch := (first | omega | (simp (disch := omega) only [zu1, zu2, zu3, nIi, T999, e2, hs, s_drops, en, ew]; omega))) only [if_true, if_false, zE10, zE00, zOkN, Nat.reduceAdd, Nat.reduceMul, zcl_s, zif01, zbn_e, nIi, nI_clamp, nI_add, nI_1, pk_mul, zgi, zlt, zle, Int32.zero_add, Int32.add_zero, C0, C1, G0, G1, Nat.zero_add, Nat.add_zero, l2, l3, l4, l5, l6, l7, l8, l10, l11, l12, l20, l30, l48, l50, l60, l100, l120, l140, l152, l164, l176, l188, l200, l212, l224, l1604, l1880, l2000, l2008, l2016, l2024, l2032, l2040, l2048, l2210, l2240, l2270, l2300, l2330, l2390, l2450, l2510, l2570, l2590, l2620, l2650, l2660, l2700, T0, T1, Tm1, Tm99, Tm999, p_within, p_in, p_isCell, p_isOwner, p_isDay11, p_isDay12, p_isTap11, p_isTaker11, if_pos, if_neg, p_isTap12, p_isTaker12, p_isGone, zu1, zu2, zu3, nIe, Nat.reduceSub, T999, e2, hs, s_drops, en, ew]
  · have hb1 : qBit (w 94 5) a = 1 := by
      rcases qBit01 (w 94 5) (show a < 32 by omega) with g | g
      · exact absurd g hb0
      · exact g
    have hs : ¬ w 232 (2570 + a) = -1 := by
      rcases hb with ⟨g1, g2, g3, _⟩ | ⟨g1, g2⟩
      · intro e; rw [e] at g3; exact absurd g3 (by decide)
      · rw [g1] at hb1; exact absurd hb1 (by decide)
    have f1 : mX11_drop 0 (nI a) v w = mX11_drop_55 0 (nI a) v w := by
      unfold mX11_drop mX6_hasDrop
      simp (disch := (first | omega | (simp (disch := omega) only [zu1, zu2, zu3, nIi, T999, e1, qb, hb1, mX6_hasDrop_16]; omega))) only [if_true, if_false, zE10, zE00, zOkN, Nat.reduceAdd, Nat.reduceMul, zcl_s, zif01, zbn_e, nIi, nI_clamp, nI_add, nI_1, pk_mul, zgi, zlt, zle, Int32.zero_add, Int32.add_zero, C0, C1, G0, G1, Nat.zero_add, Nat.add_zero, l2, l3, l4, l5, l6, l7, l8, l10, l11, l12, l20, l30, l48, l50, l60, l100, l120, l140, l152, l164, l176, l188, l200, l212, l224, l1604, l1880, l2000, l2008, l2016, l2024, l2032, l2040, l2048, l2210, l2240, l2270, l2300, l2330, l2390, l2450, l2510, l2570, l2590, l2620, l2650, l2660, l2700, T0, T1, Tm1, Tm99, Tm999, p_within, p_in, p_isCell, p_isOwner, p_isDay11, p_isDay12, p_isTap11, p_isTaker11, if_pos, if_neg, p_isTap12, p_isTaker12, p_isGone, zu1, zu2, zu3, nIe, Nat.reduceSub, T999, e1, qb, hb1, mX6_hasDrop_16]
      simp only [zgd_t zB1, zcl_s, if_false, show ((1 : Int32) = 0) = False by simp]
    obtain ⟨r, w1, w2, g1, g2, g3⟩ := go (fun q => absurd q hb0)
    refine ⟨r, w1, w2, f1.trans g1, ?_, g3⟩
    rw [← g2]
    have ew : w1 232 = w 232 := by
      have : mX11_drop_55 0 (nI a) v w = some (qCnt (w 94 5 ||| ((1 : Int32) <<< (nI a &&& 31))) 32, zup (zup w 94 5 (w 94 5 ||| ((1 : Int32) <<< (nI a &&& 31)))) 99 a v) := by
        unfold mX11_drop_55 mX6_setDrop
        simp (disch := (first | omega | (simp (disch := omega) only [zu1, zu2, zu3, nIi]; omega))) only [if_true, if_false, zE10, zE00, zOkN, Nat.reduceAdd, Nat.reduceMul, zcl_s, zif01, zbn_e, nIi, nI_clamp, nI_add, nI_1, pk_mul, zgi, zlt, zle, Int32.zero_add, Int32.add_zero, C0, C1, G0, G1, Nat.zero_add, Nat.add_zero, l2, l3, l4, l5, l6, l7, l8, l10, l11, l12, l20, l30, l48, l50, l60, l100, l120, l140, l152, l164, l176, l188, l200, l212, l224, l1604, l1880, l2000, l2008, l2016, l2024, l2032, l2040, l2048, l2210, l2240, l2270, l2300, l2330, l2390, l2450, l2510, l2570, l2590, l2620, l2650, l2660, l2700, T0, T1, Tm1, Tm99, Tm999, p_within, p_in, p_isCell, p_isOwner, p_isDay11, p_isDay12, p_isTap11, p_isTaker11, if_pos, if_neg, p_isTap12, p_isTaker12, p_isGone, zu1, zu2, zu3, nIe, Nat.reduceSub]
        rw [s_drops11]
        simp (disch := (first | omega | (simp (disch := omega) only [zu1, zu2, zu3, nIi]; omega))) only [if_true, if_false, zE10, zE00, zOkN, Nat.reduceAdd, Nat.reduceMul, zcl_s, zif01, zbn_e, nIi, nI_clamp, nI_add, nI_1, pk_mul, zgi, zlt, zle, Int32.zero_add, Int32.add_zero, C0, C1, G0, G1, Nat.zero_add, Nat.add_zero, l2, l3, l4, l5, l6, l7, l8, l10, l11, l12, l20, l30, l48, l50, l60, l100, l120, l140, l152, l164, l176, l188, l200, l212, l224, l1604, l1880, l2000, l2008, l2016, l2024, l2032, l2040, l2048, l2210, l2240, l2270, l2300, l2330, l2390, l2450, l2510, l2570, l2590, l2620, l2650, l2660, l2700, T0, T1, Tm1, Tm99, Tm999, p_within, p_in, p_isCell, p_isOwner, p_isDay11, p_isDay12, p_isTap11, p_isTaker11, if_pos, if_neg, p_isTap12, p_isTaker12, p_isGone, zu1, zu2, zu3, nIe, Nat.reduceSub]
      rw [this] at g1
      cases g1
      rw [zpE _ _ _ (by decide), zpE _ _ _ (by decide)]
    unfold mX12_drop
    simp (disch := (first | omega | (simp (disch := omega) only [zu1, zu2, zu3, nIi, T999, e2, hs, ew]; omega))) only [if_true, if_false, zE10, zE00, zOkN, Nat.reduceAdd, Nat.reduceMul, zcl_s, zif01, zbn_e, nIi, nI_clamp, nI_add, nI_1, pk_mul, zgi, zlt, zle, Int32.zero_add, Int32.add_zero, C0, C1, G0, G1, Nat.zero_add, Nat.add_zero, l2, l3, l4, l5, l6, l7, l8, l10, l11, l12, l20, l30, l48, l50, l60, l100, l120, l140, l152, l164, l176, l188, l200, l212, l224, l1604, l1880, l2000, l2008, l2016, l2024, l2032, l2040, l2048, l2210, l2240, l2270, l2300, l2330, l2390, l2450, l2510, l2570, l2590, l2620, l2650, l2660, l2700, T0, T1, Tm1, Tm99, Tm999, p_within, p_in, p_isCell, p_isOwner, p_isDay11, p_isDay12, p_isTap11, p_isTaker11, if_pos, if_neg, p_isTap12, p_isTaker12, p_isGone, zu1, zu2, zu3, nIe, Nat.reduceSub, T999, e2, hs, ew]
