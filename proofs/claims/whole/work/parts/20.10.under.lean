/-- both answer, alike, and stay side by side -/
def qBoth (n : Nat) (w : zWd) (f g : zWd → Option (Int32 × zWd)) : Prop := ∃ (r : Int32) (w1 w2 : zWd), f w = some (r, w1) ∧ g w1 = some (r, w2) ∧ qInv (n + 1) w2
theorem qBoth_id {n : Nat} {w : zWd} {f g : zWd → Option (Int32 × zWd)} (h : qInv n w) (r : Int32) (h1 : f w = some (r, w)) (h2 : g w = some (r, w)) : qBoth n w f g := ⟨r, w, w, h1, h2, h.mono (Nat.le_succ n)⟩
theorem u_under1 {n : Nat} {w : zWd} (h : qInv n w) (a b : Nat) (ha : a < 30) (hb : b < 4) (v M : Int32) (Mi : Nat) (hM : M.toInt = Mi) (h1 : (zSVv 0).getD b 0 = M) (h2 : ∀ w, mX12_under 231 (nI a) (nI b) v w = mX12_under_54 231 (nI a) (nI b) v M 0 v w) (hg : qFg (20 + 30 * b) (20 + 30 * b + 30) 0 Mi = true) : qBoth n w (mX11_under 0 (nI a) (nI b) v) (mX12_under 231 (nI a) (nI b) v) := by
  have e0 : (0 : Int32).toInt = 0 := rfl
  by_cases hv : 0 ≤ v.toInt ∧ v.toInt ≤ Mi
  · have f1 : mX11_under 0 (nI a) (nI b) v w = some (w 3 (b * 30 + a), zup w 3 (b * 30 + a) v) := by
      unfold mX11_under
      simp (disch := omega) only [p_within, zcl_s, zif01, l30, l4, nIi, nI_clamp, pk_mul, nI_add, zgi, zbn_e, h1, zlt, zle, hM, e0]
      rw [if_neg (by omega), if_neg (by omega), if_neg (by omega), if_pos (by omega)]
    have hT := qTo h 8 rfl (by decide) (i := b * 30 + a) (by omega)
    have f2 : mX12_under 231 (nI a) (nI b) v (zup w 3 (b * 30 + a) v) = some (w 3 (b * 30 + a), zup (zup w 3 (b * 30 + a) v) 232 (20 + (b * 30 + a)) v) := by
      rw [h2]
      unfold mX12_under_54
      simp (disch := omega) only [p_in, zcl_s, zif01, l30, l20, nIi, nI_clamp, pk_mul, nI_add, zgi, zbn_e, hM, e0]
      rw [if_neg (by omega)]
      rw [zup_ne _ _ _ _ _ (by omega), show 20 + 30 * b + a = 20 + (b * 30 + a) by omega]
      simp only [Nat.zero_add] at hT
      rw [← hT]
    refine ⟨_, _, _, f1, f2, h.of (Nat.le_succ n) (((qFm.rf w).up _ _ (by decide) (by omega)).up _ _ (by decide) (by omega)) ?_ ?_⟩
    · rw [qVw_out _ _ _ (by decide), qVw_in _ _ _ (show 2 < 102 by decide) rfl, qup_s, zup_ne w 3 _ v 232 (by decide)]
      exact qRl_put h.1 8 rfl (i := b * 30 + a) (by omega) (by omega) rfl (by omega) (by omega) hg (by omega) (by omega) hv
    · rw [qup_s, zup_ne w 3 _ v 232 (by decide), qu_ne _ _ (by omega)]; exact Int.le_refl _
  · refine qBoth_id h (-2) ?_ ?_
    · unfold mX11_under
      simp (disch := omega) only [p_within, zcl_s, zif01, l30, l4, nIi, nI_clamp, pk_mul, nI_add, zgi, zbn_e, h1, zlt, zle, hM, e0, mX11_under_35]
      rw [if_neg (by omega), if_neg (by omega)]
      by_cases h3 : v.toInt < 0
      · rw [if_pos h3]
      · rw [if_neg h3, if_neg (by omega)]
    · rw [h2]
      unfold mX12_under_54
      simp only [p_in, zcl_s, zif01, hM, e0]
      rw [if_pos (by omega)]
theorem u_under {n : Nat} {w : zWd} (h : qInv n w) (a b v : Int32) : qBoth n w (mX11_under 0 a b v) (mX12_under 231 a b v) := by
  rcases zX a 30 30 rfl (by decide) with ha | ⟨a, ha, rfl⟩
  · exact qBoth_id h (-1) (by unfold mX11_under; simp only [p_within, zcl_s, zif01, T30]; rw [if_pos ha]; rfl) (by unfold mX12_under; simp only [p_isCell, zcl_s, zif01]; rw [if_pos ha]; rfl)
  have ha9 : ¬ ¬ zOkN (nI a) 30 := fun q => q (zOk_nI (by omega) (by omega))
  rcases zX b 4 4 rfl (by decide) with hb | ⟨b, hb, rfl⟩
  · exact qBoth_id h (-1) (by unfold mX11_under; simp only [p_within, zcl_s, zif01, T30, T4]; rw [if_neg ha9, if_pos hb]; rfl) (by unfold mX12_under; simp only [p_isCell, p_in, zcl_s, zif01, T0, T3]; rw [if_neg ha9, if_pos (by omega)]; rfl)
  have e0 : ∀ w, mX12_isCell (nI a) w = some (1, w) := fun w => by rw [p_isCell, if_pos ⟨by rw [nIi (by omega)]; omega, by rw [nIi (by omega)]; omega⟩]
  match b, hb with
  | 0, hb => exact u_under1 h a 0 ha hb v 1500 1500 (by decide) rfl (fun w => by unfold mX12_under; rw [e0]; rfl) (by decide)
  | 1, hb => exact u_under1 h a 1 ha hb v 9999 9999 (by decide) rfl (fun w => by unfold mX12_under; rw [e0]; rfl) (by decide)
  | 2, hb => exact u_under1 h a 2 ha hb v 99 99 (by decide) rfl (fun w => by unfold mX12_under; rw [e0]; rfl) (by decide)
  | 3, hb => exact u_under1 h a 3 ha hb v 999 999 (by decide) rfl (fun w => by unfold mX12_under; rw [e0]; rfl) (by decide)
theorem u_cell {n : Nat} {w : zWd} (h : qInv n w) (a b : Int32) : qBoth n w (mX11_cell 0 a b) (mX12_cell 231 a b) := by
  rcases zX a 30 30 rfl (by decide) with ha | ⟨a, ha, rfl⟩
  · exact qBoth_id h (-1) (by unfold mX11_cell; simp (disch := omega) only [if_true, if_false, zE10, zE00, zOkN, Nat.reduceAdd, Nat.reduceMul, zcl_s, zif01, zbn_e, nIi, nI_clamp, nI_add, nI_1, pk_mul, zgi, zlt, zle, Int32.zero_add, Int32.add_zero, C0, C1, G0, G1, Nat.zero_add, Nat.add_zero, l2, l3, l4, l5, l6, l7, l8, l10, l11, l12, l20, l30, l48, l50, l60, l100, l120, l140, l152, l164, l176, l188, l200, l212, l224, l1604, l1880, l2000, l2008, l2016, l2024, l2032, l2040, l2048, l2210, l2240, l2270, l2300, l2330, l2390, l2450, l2510, l2570, l2590, l2620, l2650, l2660, l2700, T0, T1, Tm1, Tm99, Tm999, p_within, p_in, p_isCell, p_isOwner, p_isDay11, p_isDay12, p_isTap11, p_isTaker11, if_pos, if_neg, T30, mX11_cell_20]) (by unfold mX12_cell; simp (disch := omega) only [if_true, if_false, zE10, zE00, zOkN, Nat.reduceAdd, Nat.reduceMul, zcl_s, zif01, zbn_e, nIi, nI_clamp, nI_add, nI_1, pk_mul, zgi, zlt, zle, Int32.zero_add, Int32.add_zero, C0, C1, G0, G1, Nat.zero_add, Nat.add_zero, l2, l3, l4, l5, l6, l7, l8, l10, l11, l12, l20, l30, l48, l50, l60, l100, l120, l140, l152, l164, l176, l188, l200, l212, l224, l1604, l1880, l2000, l2008, l2016, l2024, l2032, l2040, l2048, l2210, l2240, l2270, l2300, l2330, l2390, l2450, l2510, l2570, l2590, l2620, l2650, l2660, l2700, T0, T1, Tm1, Tm99, Tm999, p_within, p_in, p_isCell, p_isOwner, p_isDay11, p_isDay12, p_isTap11, p_isTaker11, if_pos, if_neg, mX12_cell_33, mX12_cell_34])
  rcases zX b 4 4 rfl (by decide) with hb | ⟨b, hb, rfl⟩
  · exact qBoth_id h (-1) (by unfold mX11_cell; simp (disch := omega) only [if_true, if_false, zE10, zE00, zOkN, Nat.reduceAdd, Nat.reduceMul, zcl_s, zif01, zbn_e, nIi, nI_clamp, nI_add, nI_1, pk_mul, zgi, zlt, zle, Int32.zero_add, Int32.add_zero, C0, C1, G0, G1, Nat.zero_add, Nat.add_zero, l2, l3, l4, l5, l6, l7, l8, l10, l11, l12, l20, l30, l48, l50, l60, l100, l120, l140, l152, l164, l176, l188, l200, l212, l224, l1604, l1880, l2000, l2008, l2016, l2024, l2032, l2040, l2048, l2210, l2240, l2270, l2300, l2330, l2390, l2450, l2510, l2570, l2590, l2620, l2650, l2660, l2700, T0, T1, Tm1, Tm99, Tm999, p_within, p_in, p_isCell, p_isOwner, p_isDay11, p_isDay12, p_isTap11, p_isTaker11, if_pos, if_neg, T30, T4, mX11_cell_20]) (by unfold mX12_cell; simp (disch := omega) only [if_true, if_false, zE10, zE00, zOkN, Nat.reduceAdd, Nat.reduceMul, zcl_s, zif01, zbn_e, nIi, nI_clamp, nI_add, nI_1, pk_mul, zgi, zlt, zle, Int32.zero_add, Int32.add_zero, C0, C1, G0, G1, Nat.zero_add, Nat.add_zero, l2, l3, l4, l5, l6, l7, l8, l10, l11, l12, l20, l30, l48, l50, l60, l100, l120, l140, l152, l164, l176, l188, l200, l212, l224, l1604, l1880, l2000, l2008, l2016, l2024, l2032, l2040, l2048, l2210, l2240, l2270, l2300, l2330, l2390, l2450, l2510, l2570, l2590, l2620, l2650, l2660, l2700, T0, T1, Tm1, Tm99, Tm999, p_within, p_in, p_isCell, p_isOwner, p_isDay11, p_isDay12, p_isTap11, p_isTaker11, if_pos, if_neg, T3, mX12_cell_33, mX12_cell_34])
  have hT := qTo h 8 rfl (by decide) (i := b * 30 + a) (by omega)
  simp only [Nat.zero_add] at hT
  refine qBoth_id h (w 3 (b * 30 + a)) (by unfold mX11_cell; simp (disch := omega) only [if_true, if_false, zE10, zE00, zOkN, Nat.reduceAdd, Nat.reduceMul, zcl_s, zif01, zbn_e, nIi, nI_clamp, nI_add, nI_1, pk_mul, zgi, zlt, zle, Int32.zero_add, Int32.add_zero, C0, C1, G0, G1, Nat.zero_add, Nat.add_zero, l2, l3, l4, l5, l6, l7, l8, l10, l11, l12, l20, l30, l48, l50, l60, l100, l120, l140, l152, l164, l176, l188, l200, l212, l224, l1604, l1880, l2000, l2008, l2016, l2024, l2032, l2040, l2048, l2210, l2240, l2270, l2300, l2330, l2390, l2450, l2510, l2570, l2590, l2620, l2650, l2660, l2700, T0, T1, Tm1, Tm99, Tm999, p_within, p_in, p_isCell, p_isOwner, p_isDay11, p_isDay12, p_isTap11, p_isTaker11, if_pos, if_neg]) ?_
  unfold mX12_cell
  simp (disch := omega) only [if_true, if_false, zE10, zE00, zOkN, Nat.reduceAdd, Nat.reduceMul, zcl_s, zif01, zbn_e, nIi, nI_clamp, nI_add, nI_1, pk_mul, zgi, zlt, zle, Int32.zero_add, Int32.add_zero, C0, C1, G0, G1, Nat.zero_add, Nat.add_zero, l2, l3, l4, l5, l6, l7, l8, l10, l11, l12, l20, l30, l48, l50, l60, l100, l120, l140, l152, l164, l176, l188, l200, l212, l224, l1604, l1880, l2000, l2008, l2016, l2024, l2032, l2040, l2048, l2210, l2240, l2270, l2300, l2330, l2390, l2450, l2510, l2570, l2590, l2620, l2650, l2660, l2700, T0, T1, Tm1, Tm99, Tm999, p_within, p_in, p_isCell, p_isOwner, p_isDay11, p_isDay12, p_isTap11, p_isTaker11, if_pos, if_neg, mX12_cell_34]
  rw [show 20 + 30 * b + a = 20 + (b * 30 + a) by omega, ← hT]
