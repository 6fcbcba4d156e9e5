/-- the OWNER behind all SALES whose key (DAY and place) is less -/
def qOw (T : Int32) (n : Nat) (tk dy by' to' : Nat → Int32) : Nat → Int32
  | 0 => 0
  | c + 1 => if c % 30 < n ∧ tk (c % 30) = T ∧ dy (c % 30) = nI (c / 30) ∧ by' (c % 30) = qOw T n tk dy by' to' c then to' (c % 30) else qOw T n tk dy by' to' c
section QO
variable {T : Int32} {n : Nat} {tk dy by' to' : Nat → Int32}
theorem qOw_st {c : Nat} : ∀ m, (∀ e, c ≤ e → e < c + m → ¬ (e % 30 < n ∧ tk (e % 30) = T ∧ dy (e % 30) = nI (e / 30))) → qOw T n tk dy by' to' (c + m) = qOw T n tk dy by' to' c
  | 0, _ => rfl
  | m + 1, h => by
    show qOw T n tk dy by' to' ((c + m) + 1) = _
    conv => lhs; unfold qOw
    rw [if_neg (fun q => h (c + m) (by omega) (by omega) ⟨q.1, q.2.1, q.2.2.1⟩)]
    exact qOw_st m (fun e h1 h2 => h e h1 (by omega))
theorem qOw_congr {tk2 dy2 by2 to2 : Nat → Int32} (hn : n ≤ 30) (h : ∀ i, i < n → tk i = tk2 i ∧ dy i = dy2 i ∧ by' i = by2 i ∧ to' i = to2 i) : ∀ c, qOw T n tk dy by' to' c = qOw T n tk2 dy2 by2 to2 c
  | 0 => rfl
  | c + 1 => by
    unfold qOw
    rw [qOw_congr hn h c]
    by_cases g : c % 30 < n
    · obtain ⟨h1, h2, h3, h4⟩ := h _ g
      rw [h1, h2, h3, h4]
    · rw [if_neg (fun q => g q.1), if_neg (fun q => g q.1)]
end QO
/-- the model's two loops -/
theorem s_whose12 {w : zWd} {a N DY : Nat} (hN : N ≤ 30) (hDY : DY ≤ 400) : mX12_whose_57 231 (nI a) (nI DY) (nI N) 0 0 w = some (qOw (nI a) N (fun k => w 232 (2210 + k)) (fun k => w 232 (2300 + k)) (fun k => w 232 (2240 + k)) (fun k => w 232 (2270 + k)) (30 * (DY + 1)), w) := by
  unfold mX12_whose_57
  generalize hO : qOw (nI a) N (fun k => w 232 (2210 + k)) (fun k => w 232 (2300 + k)) (fun k => w 232 (2240 + k)) (fun k => w 232 (2270 + k)) = O
  have h0 : O 0 = 0 := by rw [← hO]; rfl
  refine zlp_to (P := fun i q => q = (O (30 * i), nI i, w)) (n := DY + 1) (by unfold zFU; omega) ?_ (by show _ = (O 0, nI 0, w); rw [h0]; rfl)
  rintro i hi q rfl k hk
  simp only [mX12_whose_57b]
  by_cases e : i = DY + 1
  · subst e
    simp (disch := (first | omega | (simp (disch := omega) only [zu1, zu2, zu3, nIi]; omega))) only [if_true, if_false, zE10, zE00, zOkN, Nat.reduceAdd, Nat.reduceMul, zcl_s, zif01, zbn_e, nIi, nI_clamp, nI_add, nI_1, pk_mul, zgi, zlt, zle, Int32.zero_add, Int32.add_zero, C0, C1, G0, G1, Nat.zero_add, Nat.add_zero, l2, l3, l4, l5, l6, l7, l8, l10, l11, l12, l20, l30, l48, l50, l60, l100, l120, l140, l152, l164, l176, l188, l200, l212, l224, l1604, l1880, l2000, l2008, l2016, l2024, l2032, l2040, l2048, l2210, l2240, l2270, l2300, l2330, l2390, l2450, l2510, l2570, l2590, l2620, l2650, l2660, l2700, T0, T1, Tm1, Tm99, Tm999, p_within, p_in, p_isCell, p_isOwner, p_isDay11, p_isDay12, p_isTap11, p_isTaker11, if_pos, if_neg, p_isTap12, p_isTaker12, p_isGone, zu1, zu2, zu3, nIe, Nat.reduceSub]
  have hi2 : i ≤ DY := by omega
  simp (disch := (first | omega | (simp (disch := omega) only [zu1, zu2, zu3, nIi]; omega))) only [if_true, if_false, zE10, zE00, zOkN, Nat.reduceAdd, Nat.reduceMul, zcl_s, zif01, zbn_e, nIi, nI_clamp, nI_add, nI_1, pk_mul, zgi, zlt, zle, Int32.zero_add, Int32.add_zero, C0, C1, G0, G1, Nat.zero_add, Nat.add_zero, l2, l3, l4, l5, l6, l7, l8, l10, l11, l12, l20, l30, l48, l50, l60, l100, l120, l140, l152, l164, l176, l188, l200, l212, l224, l1604, l1880, l2000, l2008, l2016, l2024, l2032, l2040, l2048, l2210, l2240, l2270, l2300, l2330, l2390, l2450, l2510, l2570, l2590, l2620, l2650, l2660, l2700, T0, T1, Tm1, Tm99, Tm999, p_within, p_in, p_isCell, p_isOwner, p_isDay11, p_isDay12, p_isTap11, p_isTaker11, if_pos, if_neg, p_isTap12, p_isTaker12, p_isGone, zu1, zu2, zu3, nIe, Nat.reduceSub]
  unfold mX12_whose_66
  have hend : k (O (30 * (i + 1)), nI (i + 1), w) = some (O (30 * (DY + 1)), w) := hk (by omega) _ rfl
  refine zlp_to (P := fun j q => q = (O (30 * i + j), nI j, w)) (n := N) (by unfold zFU; omega) ?_ rfl
  rintro j hj q rfl k2 hk2
  simp only [mX12_whose_66b]
  by_cases ej : j = N
  · subst ej
    have : O (30 * (i + 1)) = O (30 * i + j) := by
      rw [← hO, show 30 * (i + 1) = 30 * i + j + (30 - j) by omega]
      exact qOw_st _ (fun c h1 h2 q => by omega)
    rw [this] at hend
    simp (disch := (first | omega | (simp (disch := omega) only [zu1, zu2, zu3, nIi]; omega))) only [if_true, if_false, zE10, zE00, zOkN, Nat.reduceAdd, Nat.reduceMul, zcl_s, zif01, zbn_e, nIi, nI_clamp, nI_add, nI_1, pk_mul, zgi, zlt, zle, Int32.zero_add, Int32.add_zero, C0, C1, G0, G1, Nat.zero_add, Nat.add_zero, l2, l3, l4, l5, l6, l7, l8, l10, l11, l12, l20, l30, l48, l50, l60, l100, l120, l140, l152, l164, l176, l188, l200, l212, l224, l1604, l1880, l2000, l2008, l2016, l2024, l2032, l2040, l2048, l2210, l2240, l2270, l2300, l2330, l2390, l2450, l2510, l2570, l2590, l2620, l2650, l2660, l2700, T0, T1, Tm1, Tm99, Tm999, p_within, p_in, p_isCell, p_isOwner, p_isDay11, p_isDay12, p_isTap11, p_isTaker11, if_pos, if_neg, p_isTap12, p_isTaker12, p_isGone, zu1, zu2, zu3, nIe, Nat.reduceSub]
    exact hend
  have hstep : O (30 * i + (j + 1)) = if w 232 (2210 + j) = nI a ∧ w 232 (2300 + j) = nI i ∧ w 232 (2240 + j) = O (30 * i + j) then w 232 (2270 + j) else O (30 * i + j) := by
    rw [← hO]
    show qOw _ _ _ _ _ _ ((30 * i + j) + 1) = _
    conv => lhs; unfold qOw
    rw [show (30 * i + j) % 30 = j by omega, show (30 * i + j) / 30 = i by omega]
    have hj2 : j < N := by omega
    simp only [hj2, true_and]
  have hk3 : ∀ x, O (30 * i + (j + 1)) = x → k2 (x, nI (j + 1), w) = some (O (30 * (DY + 1)), w) := fun x hx => by rw [← hx]; exact hk2 (by omega) _ rfl
  by_cases c1 : w 232 (2210 + j) = nI a
  rotate_left
  · simp (disch := (first | omega | (simp (disch := omega) only [zu1, zu2, zu3, nIi, c1, mX12_whose_124, mX12_whose_125, mX12_whose_148]; omega))) only [if_true, if_false, zE10, zE00, zOkN, Nat.reduceAdd, Nat.reduceMul, zcl_s, zif01, zbn_e, nIi, nI_clamp, nI_add, nI_1, pk_mul, zgi, zlt, zle, Int32.zero_add, Int32.add_zero, C0, C1, G0, G1, Nat.zero_add, Nat.add_zero, l2, l3, l4, l5, l6, l7, l8, l10, l11, l12, l20, l30, l48, l50, l60, l100, l120, l140, l152, l164, l176, l188, l200, l212, l224, l1604, l1880, l2000, l2008, l2016, l2024, l2032, l2040, l2048, l2210, l2240, l2270, l2300, l2330, l2390, l2450, l2510, l2570, l2590, l2620, l2650, l2660, l2700, T0, T1, Tm1, Tm99, Tm999, p_within, p_in, p_isCell, p_isOwner, p_isDay11, p_isDay12, p_isTap11, p_isTaker11, if_pos, if_neg, p_isTap12, p_isTaker12, p_isGone, zu1, zu2, zu3, nIe, Nat.reduceSub, c1, mX12_whose_124, mX12_whose_125, mX12_whose_148]
    exact hk3 _ (hstep.trans (if_neg (fun q => c1 q.1)))
  by_cases c2 : w 232 (2300 + j) = nI i
  rotate_left
  · simp (disch := (first | omega | (simp (disch := omega) only [zu1, zu2, zu3, nIi, c1, c2, mX12_whose_124, mX12_whose_125, mX12_whose_148]; omega))) only [if_true, if_false, zE10, zE00, zOkN, Nat.reduceAdd, Nat.reduceMul, zcl_s, zif01, zbn_e, nIi, nI_clamp, nI_add, nI_1, pk_mul, zgi, zlt, zle, Int32.zero_add, Int32.add_zero, C0, C1, G0, G1, Nat.zero_add, Nat.add_zero, l2, l3, l4, l5, l6, l7, l8, l10, l11, l12, l20, l30, l48, l50, l60, l100, l120, l140, l152, l164, l176, l188, l200, l212, l224, l1604, l1880, l2000, l2008, l2016, l2024, l2032, l2040, l2048, l2210, l2240, l2270, l2300, l2330, l2390, l2450, l2510, l2570, l2590, l2620, l2650, l2660, l2700, T0, T1, Tm1, Tm99, Tm999, p_within, p_in, p_isCell, p_isOwner, p_isDay11, p_isDay12, p_isTap11, p_isTaker11, if_pos, if_neg, p_isTap12, p_isTaker12, p_isGone, zu1, zu2, zu3, nIe, Nat.reduceSub, c1, c2, mX12_whose_124, mX12_whose_125, mX12_whose_148]
    exact hk3 _ (hstep.trans (if_neg (fun q => c2 q.2.1)))
  by_cases c3 : w 232 (2240 + j) = O (30 * i + j)
  rotate_left
  · simp (disch := (first | omega | (simp (disch := omega) only [zu1, zu2, zu3, nIi, c1, c2, c3, mX12_whose_124, mX12_whose_125, mX12_whose_148]; omega))) only [if_true, if_false, zE10, zE00, zOkN, Nat.reduceAdd, Nat.reduceMul, zcl_s, zif01, zbn_e, nIi, nI_clamp, nI_add, nI_1, pk_mul, zgi, zlt, zle, Int32.zero_add, Int32.add_zero, C0, C1, G0, G1, Nat.zero_add, Nat.add_zero, l2, l3, l4, l5, l6, l7, l8, l10, l11, l12, l20, l30, l48, l50, l60, l100, l120, l140, l152, l164, l176, l188, l200, l212, l224, l1604, l1880, l2000, l2008, l2016, l2024, l2032, l2040, l2048, l2210, l2240, l2270, l2300, l2330, l2390, l2450, l2510, l2570, l2590, l2620, l2650, l2660, l2700, T0, T1, Tm1, Tm99, Tm999, p_within, p_in, p_isCell, p_isOwner, p_isDay11, p_isDay12, p_isTap11, p_isTaker11, if_pos, if_neg, p_isTap12, p_isTaker12, p_isGone, zu1, zu2, zu3, nIe, Nat.reduceSub, c1, c2, c3, mX12_whose_124, mX12_whose_125, mX12_whose_148]
    exact hk3 _ (hstep.trans (if_neg (fun q => c3 q.2.2)))
  · simp (disch := (first | omega | (simp (disch := omega) only [zu1, zu2, zu3, nIi, c1, c2, c3, mX12_whose_124, mX12_whose_125, mX12_whose_148]; omega))) only [if_true, if_false, zE10, zE00, zOkN, Nat.reduceAdd, Nat.reduceMul, zcl_s, zif01, zbn_e, nIi, nI_clamp, nI_add, nI_1, pk_mul, zgi, zlt, zle, Int32.zero_add, Int32.add_zero, C0, C1, G0, G1, Nat.zero_add, Nat.add_zero, l2, l3, l4, l5, l6, l7, l8, l10, l11, l12, l20, l30, l48, l50, l60, l100, l120, l140, l152, l164, l176, l188, l200, l212, l224, l1604, l1880, l2000, l2008, l2016, l2024, l2032, l2040, l2048, l2210, l2240, l2270, l2300, l2330, l2390, l2450, l2510, l2570, l2590, l2620, l2650, l2660, l2700, T0, T1, Tm1, Tm99, Tm999, p_within, p_in, p_isCell, p_isOwner, p_isDay11, p_isDay12, p_isTap11, p_isTaker11, if_pos, if_neg, p_isTap12, p_isTaker12, p_isGone, zu1, zu2, zu3, nIe, Nat.reduceSub, c1, c2, c3, mX12_whose_124, mX12_whose_125, mX12_whose_148]
    exact hk3 _ (hstep.trans (if_pos ⟨c1, c2, c3⟩))
/-- the least key from L on among the first i SALES -/
def qSk (w : zWd) (T : Int32) (D : Nat → Nat) (DY L i : Nat) (r : Int32) : Prop := (r = -1 ∧ ∀ j, j < i → w 90 j = T → D j ≤ DY → D j * 30 + j < L) ∨ ∃ j, j < i ∧ w 90 j = T ∧ D j ≤ DY ∧ L ≤ D j * 30 + j ∧ r = nI (D j * 30 + j) ∧ ∀ j', j' < i → w 90 j' = T → D j' ≤ DY → L ≤ D j' * 30 + j' → D j * 30 + j ≤ D j' * 30 + j'
theorem s_saleKey {w : zWd} {N : Nat} (T : Int32) (hN : N ≤ 30) {D : Nat → Nat} (hD : ∀ j, j < N → w 93 j = nI (D j) ∧ D j ≤ 400) {DY L : Nat} (hDY : DY ≤ 400) {lim : Int32} (el : lim.toInt = (L : Int) - 1) : ∃ r, mX8_saleKeyAbove 82 lim T (nI DY) (nI N) w = some (r, w) ∧ qSk w T D DY L N r := by
  unfold mX8_saleKeyAbove mX8_saleKeyAbove_6
  refine zlp_R (R := fun X => ∃ r, X = some (r, w) ∧ qSk w T D DY L N r) (P := fun i q => ∃ r, q = (r, nI i, w) ∧ qSk w T D DY L i r) (n := N) (by unfold zFU; omega) ?_ ⟨-1, rfl, Or.inl ⟨rfl, fun j hj => by omega⟩⟩
  rintro i hi q ⟨r, rfl, hq⟩ k hk
  simp only [mX8_saleKeyAbove_6b, mX8_saleKeyAbove_85, mX8_saleKeyAbove_79, mX8_saleKeyAbove_75]
  by_cases e : i = N
  · subst e
    refine ⟨r, ?_, hq⟩
    simp (disch := (first | omega | (simp (disch := omega) only [zu1, zu2, zu3, nIi]; omega))) only [if_true, if_false, zE10, zE00, zOkN, Nat.reduceAdd, Nat.reduceMul, zcl_s, zif01, zbn_e, nIi, nI_clamp, nI_add, nI_1, pk_mul, zgi, zlt, zle, Int32.zero_add, Int32.add_zero, C0, C1, G0, G1, Nat.zero_add, Nat.add_zero, l2, l3, l4, l5, l6, l7, l8, l10, l11, l12, l20, l30, l48, l50, l60, l100, l120, l140, l152, l164, l176, l188, l200, l212, l224, l1604, l1880, l2000, l2008, l2016, l2024, l2032, l2040, l2048, l2210, l2240, l2270, l2300, l2330, l2390, l2450, l2510, l2570, l2590, l2620, l2650, l2660, l2700, T0, T1, Tm1, Tm99, Tm999, p_within, p_in, p_isCell, p_isOwner, p_isDay11, p_isDay12, p_isTap11, p_isTaker11, if_pos, if_neg, p_isTap12, p_isTaker12, p_isGone, zu1, zu2, zu3, nIe, Nat.reduceSub]
  obtain ⟨ev, hv⟩ := hD i (by omega)
  have next : ∀ r', qSk w T D DY L (i + 1) r' → ∃ r, k (r', nI (i + 1), w) = some (r, w) ∧ qSk w T D DY L N r := fun r' h => hk (by omega) _ ⟨r', rfl, h⟩
  have skip : ¬ (w 90 i = T ∧ D i ≤ DY ∧ L ≤ D i * 30 + i) → ∃ r1, k (r, nI (i + 1), w) = some (r1, w) ∧ qSk w T D DY L N r1 := by
    intro c
    refine next r ?_
    rcases hq with ⟨h1, h2⟩ | ⟨j, h1, h2, h3, h4, h5, h6⟩
    · refine Or.inl ⟨h1, fun j hj g1 g2 => ?_⟩
      by_cases ej : j = i
      · subst ej
        by_cases g : L ≤ D j * 30 + j
        · exact absurd ⟨g1, g2, g⟩ c
        · omega
      · exact h2 j (by omega) g1 g2
    · refine Or.inr ⟨j, by omega, h2, h3, h4, h5, fun j' hj' g1 g2 g3 => ?_⟩
      by_cases ej : j' = i
      · subst ej; exact absurd ⟨g1, g2, g3⟩ c
      · exact h6 j' (by omega) g1 g2 g3
  by_cases c1 : w 90 i = T
  rotate_left
  · simp (disch := (first | omega | (simp (disch := omega) only [zu1, zu2, zu3, nIi, ev, c1]; omega))) only [if_true, if_false, zE10, zE00, zOkN, Nat.reduceAdd, Nat.reduceMul, zcl_s, zif01, zbn_e, nIi, nI_clamp, nI_add, nI_1, pk_mul, zgi, zlt, zle, Int32.zero_add, Int32.add_zero, C0, C1, G0, G1, Nat.zero_add, Nat.add_zero, l2, l3, l4, l5, l6, l7, l8, l10, l11, l12, l20, l30, l48, l50, l60, l100, l120, l140, l152, l164, l176, l188, l200, l212, l224, l1604, l1880, l2000, l2008, l2016, l2024, l2032, l2040, l2048, l2210, l2240, l2270, l2300, l2330, l2390, l2450, l2510, l2570, l2590, l2620, l2650, l2660, l2700, T0, T1, Tm1, Tm99, Tm999, p_within, p_in, p_isCell, p_isOwner, p_isDay11, p_isDay12, p_isTap11, p_isTaker11, if_pos, if_neg, p_isTap12, p_isTaker12, p_isGone, zu1, zu2, zu3, nIe, Nat.reduceSub, ev, c1]
    exact skip (fun q => c1 q.1)
  by_cases c2 : D i ≤ DY
  rotate_left
  · simp (disch := (first | omega | (simp (disch := omega) only [zu1, zu2, zu3, nIi, ev, c1]; omega))) only [if_true, if_false, zE10, zE00, zOkN, Nat.reduceAdd, Nat.reduceMul, zcl_s, zif01, zbn_e, nIi, nI_clamp, nI_add, nI_1, pk_mul, zgi, zlt, zle, Int32.zero_add, Int32.add_zero, C0, C1, G0, G1, Nat.zero_add, Nat.add_zero, l2, l3, l4, l5, l6, l7, l8, l10, l11, l12, l20, l30, l48, l50, l60, l100, l120, l140, l152, l164, l176, l188, l200, l212, l224, l1604, l1880, l2000, l2008, l2016, l2024, l2032, l2040, l2048, l2210, l2240, l2270, l2300, l2330, l2390, l2450, l2510, l2570, l2590, l2620, l2650, l2660, l2700, T0, T1, Tm1, Tm99, Tm999, p_within, p_in, p_isCell, p_isOwner, p_isDay11, p_isDay12, p_isTap11, p_isTaker11, if_pos, if_neg, p_isTap12, p_isTaker12, p_isGone, zu1, zu2, zu3, nIe, Nat.reduceSub, ev, c1]
    exact skip (fun q => c2 q.2.1)
  by_cases c3 : L ≤ D i * 30 + i
  rotate_left
  · simp (disch := (first | omega | (simp (disch := omega) only [zu1, zu2, zu3, nIi, ev, c1]; omega))) only [if_true, if_false, zE10, zE00, zOkN, Nat.reduceAdd, Nat.reduceMul, zcl_s, zif01, zbn_e, nIi, nI_clamp, nI_add, nI_1, pk_mul, zgi, zlt, zle, Int32.zero_add, Int32.add_zero, C0, C1, G0, G1, Nat.zero_add, Nat.add_zero, l2, l3, l4, l5, l6, l7, l8, l10, l11, l12, l20, l30, l48, l50, l60, l100, l120, l140, l152, l164, l176, l188, l200, l212, l224, l1604, l1880, l2000, l2008, l2016, l2024, l2032, l2040, l2048, l2210, l2240, l2270, l2300, l2330, l2390, l2450, l2510, l2570, l2590, l2620, l2650, l2660, l2700, T0, T1, Tm1, Tm99, Tm999, p_within, p_in, p_isCell, p_isOwner, p_isDay11, p_isDay12, p_isTap11, p_isTaker11, if_pos, if_neg, p_isTap12, p_isTaker12, p_isGone, zu1, zu2, zu3, nIe, Nat.reduceSub, ev, c1]
    exact skip (fun q => c3 q.2.2)
  rcases hq with ⟨rfl, h2⟩ | ⟨j, h1, h2, h3, h4, rfl, h6⟩
  · simp (disch := (first | omega | (simp (disch := omega) only [zu1, zu2, zu3, nIi, ev, c1]; omega))) only [if_true, if_false, zE10, zE00, zOkN, Nat.reduceAdd, Nat.reduceMul, zcl_s, zif01, zbn_e, nIi, nI_clamp, nI_add, nI_1, pk_mul, zgi, zlt, zle, Int32.zero_add, Int32.add_zero, C0, C1, G0, G1, Nat.zero_add, Nat.add_zero, l2, l3, l4, l5, l6, l7, l8, l10, l11, l12, l20, l30, l48, l50, l60, l100, l120, l140, l152, l164, l176, l188, l200, l212, l224, l1604, l1880, l2000, l2008, l2016, l2024, l2032, l2040, l2048, l2210, l2240, l2270, l2300, l2330, l2390, l2450, l2510, l2570, l2590, l2620, l2650, l2660, l2700, T0, T1, Tm1, Tm99, Tm999, p_within, p_in, p_isCell, p_isOwner, p_isDay11, p_isDay12, p_isTap11, p_isTaker11, if_pos, if_neg, p_isTap12, p_isTaker12, p_isGone, zu1, zu2, zu3, nIe, Nat.reduceSub, ev, c1]
    refine next _ (Or.inr ⟨i, by omega, c1, c2, c3, rfl, fun j' hj' g1 g2 g3 => ?_⟩)
    by_cases ej : j' = i
    · rw [ej]; exact Nat.le_refl _
    · have := h2 j' (by omega) g1 g2; omega
  have hvj := (hD j (by omega)).2
  by_cases c4 : D j * 30 + j ≤ D i * 30 + i
  · simp (disch := (first | omega | (simp (disch := omega) only [zu1, zu2, zu3, nIi, ev, c1]; omega))) only [if_true, if_false, zE10, zE00, zOkN, Nat.reduceAdd, Nat.reduceMul, zcl_s, zif01, zbn_e, nIi, nI_clamp, nI_add, nI_1, pk_mul, zgi, zlt, zle, Int32.zero_add, Int32.add_zero, C0, C1, G0, G1, Nat.zero_add, Nat.add_zero, l2, l3, l4, l5, l6, l7, l8, l10, l11, l12, l20, l30, l48, l50, l60, l100, l120, l140, l152, l164, l176, l188, l200, l212, l224, l1604, l1880, l2000, l2008, l2016, l2024, l2032, l2040, l2048, l2210, l2240, l2270, l2300, l2330, l2390, l2450, l2510, l2570, l2590, l2620, l2650, l2660, l2700, T0, T1, Tm1, Tm99, Tm999, p_within, p_in, p_isCell, p_isOwner, p_isDay11, p_isDay12, p_isTap11, p_isTaker11, if_pos, if_neg, p_isTap12, p_isTaker12, p_isGone, zu1, zu2, zu3, nIe, Nat.reduceSub, ev, c1]
    refine next _ (Or.inr ⟨j, by omega, h2, h3, h4, rfl, fun j' hj' g1 g2 g3 => ?_⟩)
    by_cases ej : j' = i
    · rw [ej]; exact c4
    · exact h6 j' (by omega) g1 g2 g3
  · simp (disch := (first | omega | (simp (disch := omega) only [zu1, zu2, zu3, nIi, ev, c1]; omega))) only [if_true, if_false, zE10, zE00, zOkN, Nat.reduceAdd, Nat.reduceMul, zcl_s, zif01, zbn_e, nIi, nI_clamp, nI_add, nI_1, pk_mul, zgi, zlt, zle, Int32.zero_add, Int32.add_zero, C0, C1, G0, G1, Nat.zero_add, Nat.add_zero, l2, l3, l4, l5, l6, l7, l8, l10, l11, l12, l20, l30, l48, l50, l60, l100, l120, l140, l152, l164, l176, l188, l200, l212, l224, l1604, l1880, l2000, l2008, l2016, l2024, l2032, l2040, l2048, l2210, l2240, l2270, l2300, l2330, l2390, l2450, l2510, l2570, l2590, l2620, l2650, l2660, l2700, T0, T1, Tm1, Tm99, Tm999, p_within, p_in, p_isCell, p_isOwner, p_isDay11, p_isDay12, p_isTap11, p_isTaker11, if_pos, if_neg, p_isTap12, p_isTaker12, p_isGone, zu1, zu2, zu3, nIe, Nat.reduceSub, ev, c1]
    refine next _ (Or.inr ⟨i, by omega, c1, c2, c3, rfl, fun j' hj' g1 g2 g3 => ?_⟩)
    by_cases ej : j' = i
    · rw [ej]; exact Nat.le_refl _
    · have := h6 j' (by omega) g1 g2 g3; omega
theorem s_owner {w : zWd} {a N : Nat} (hN : N ≤ 30) {D : Nat → Nat} (hD : ∀ j, j < N → w 93 j = nI (D j) ∧ D j ≤ 400) {DY : Nat} (hDY : DY ≤ 400) : mX8_ownerOn 82 (nI a) (nI DY) (nI N) w = some (qOw (nI a) N (w 90) (w 93) (w 91) (w 92) (30 * (DY + 1)), w) := by
  unfold mX8_ownerOn mX8_ownerOn_9
  generalize hO : qOw (nI a) N (w 90) (w 93) (w 91) (w 92) = O
  have mt : ∀ c, c < 30 * (DY + 1) → c % 30 < N ∧ w 90 (c % 30) = nI a ∧ w 93 (c % 30) = nI (c / 30) → D (c % 30) = c / 30 := by
    intro c hc ⟨h1, _, h3⟩
    have := hD _ h1
    rw [this.1, nIe (by omega) (by omega)] at h3
    exact h3
  have stay : ∀ c, c ≤ 30 * (DY + 1) → (∀ j, j < N → w 90 j = nI a → D j ≤ DY → D j * 30 + j < c) → O (30 * (DY + 1)) = O c := by
    intro c hc h
    rw [← hO, show 30 * (DY + 1) = c + (30 * (DY + 1) - c) by omega]
    refine qOw_st _ (fun e h1 h2 q => ?_)
    have g1 := mt e (by omega) q
    have g2 := h _ q.1 q.2.1 (by omega)
    omega
  refine zlp_to (P := fun i q => ∃ (c : Nat) (v : Int32), q = (O c, v, nI i, w) ∧ v.toInt = (c : Int) - 1 ∧ c ≤ 30 * (DY + 1) ∧ i ≤ qCt (fun j => decide (w 90 j = nI a ∧ D j ≤ DY ∧ D j * 30 + j < c)) N) (n := N) (by unfold zFU; omega) ?_ ⟨0, -1, by rw [← hO]; rfl, Tm1, Nat.zero_le _, Nat.zero_le _⟩
  rintro i hi q ⟨c, v, rfl, hv, hc, hct⟩ k hk
  simp only [mX8_ownerOn_9b, mX8_ownerOn_61]
  by_cases e : i = N
  · have hall : ∀ j, j < N → w 90 j = nI a → D j ≤ DY → D j * 30 + j < c := by
      intro j hj h1 h2
      by_cases g : D j * 30 + j < c
      · exact g
      exfalso
      have h3 := qCt_lt (p := fun j => decide (w 90 j = nI a ∧ D j ≤ DY ∧ D j * 30 + j < c)) (q := fun _ => true) (a0 := j) rfl (by simp only [decide_eq_false_iff_not]; exact fun q => g q.2.2) N hj (fun _ _ _ => rfl)
      have h4 := qCt_le (fun _ => true) N
      omega
    rw [stay c hc hall]
    subst e
    simp (disch := (first | omega | (simp (disch := omega) only [zu1, zu2, zu3, nIi]; omega))) only [if_true, if_false, zE10, zE00, zOkN, Nat.reduceAdd, Nat.reduceMul, zcl_s, zif01, zbn_e, nIi, nI_clamp, nI_add, nI_1, pk_mul, zgi, zlt, zle, Int32.zero_add, Int32.add_zero, C0, C1, G0, G1, Nat.zero_add, Nat.add_zero, l2, l3, l4, l5, l6, l7, l8, l10, l11, l12, l20, l30, l48, l50, l60, l100, l120, l140, l152, l164, l176, l188, l200, l212, l224, l1604, l1880, l2000, l2008, l2016, l2024, l2032, l2040, l2048, l2210, l2240, l2270, l2300, l2330, l2390, l2450, l2510, l2570, l2590, l2620, l2650, l2660, l2700, T0, T1, Tm1, Tm99, Tm999, p_within, p_in, p_isCell, p_isOwner, p_isDay11, p_isDay12, p_isTap11, p_isTaker11, if_pos, if_neg, p_isTap12, p_isTaker12, p_isGone, zu1, zu2, zu3, nIe, Nat.reduceSub]
  obtain ⟨r, g1, g2⟩ := s_saleKey (w := w) (nI a) hN hD hDY hv
  rcases g2 with ⟨rfl, g2⟩ | ⟨j, h1, h2, h3, h4, rfl, h6⟩
  · rw [stay c hc g2]
    simp (disch := (first | omega | (simp (disch := omega) only [zu1, zu2, zu3, nIi, g1, Tm1]; omega))) only [if_true, if_false, zE10, zE00, zOkN, Nat.reduceAdd, Nat.reduceMul, zcl_s, zif01, zbn_e, nIi, nI_clamp, nI_add, nI_1, pk_mul, zgi, zlt, zle, Int32.zero_add, Int32.add_zero, C0, C1, G0, G1, Nat.zero_add, Nat.add_zero, l2, l3, l4, l5, l6, l7, l8, l10, l11, l12, l20, l30, l48, l50, l60, l100, l120, l140, l152, l164, l176, l188, l200, l212, l224, l1604, l1880, l2000, l2008, l2016, l2024, l2032, l2040, l2048, l2210, l2240, l2270, l2300, l2330, l2390, l2450, l2510, l2570, l2590, l2620, l2650, l2660, l2700, T0, T1, Tm1, Tm99, Tm999, p_within, p_in, p_isCell, p_isOwner, p_isDay11, p_isDay12, p_isTap11, p_isTaker11, if_pos, if_neg, p_isTap12, p_isTaker12, p_isGone, zu1, zu2, zu3, nIe, Nat.reduceSub, g1, Tm1]
  have hDj := hD j h1
  have ej : nI (D j * 30 + j) - nI (D j * 30 + j) / nI 30 * nI 30 = nI j := by
    rw [pk_rem (by omega) (by decide) (by decide)]
    congr 1; omega
  have hsame : O (D j * 30 + j) = O c := by
    rw [← hO, show D j * 30 + j = c + (D j * 30 + j - c) by omega]
    refine qOw_st _ (fun e h7 h8 q => ?_)
    have k1 := mt e (by omega) q
    have k2 := h6 _ q.1 q.2.1 (by omega) (by omega)
    omega
  have hstep : O (D j * 30 + j + 1) = if w 91 j = O c then w 92 j else O c := by
    rw [← hsame, ← hO]
    conv => lhs; unfold qOw
    rw [show (D j * 30 + j) % 30 = j by omega, show (D j * 30 + j) / 30 = D j by omega]
    simp only [h1, h2, hDj.1, true_and]
  have hnext : ∀ x, O (D j * 30 + j + 1) = x → k (x, nI (D j * 30 + j), nI (i + 1), w) = some (O (30 * (DY + 1)), w) := by
    intro x hx
    refine hk (by omega) _ ⟨D j * 30 + j + 1, _, by rw [hx], by rw [nIi (by omega)]; omega, by omega, ?_⟩
    refine Nat.le_trans (Nat.succ_le_succ hct) (qCt_lt (a0 := j) ?_ ?_ N h1 (fun j' hj' hp => ?_))
    · simp only [decide_eq_true_eq]; exact ⟨h2, h3, by omega⟩
    · simp only [decide_eq_false_iff_not]; omega
    · simp only [decide_eq_true_eq] at hp ⊢
      exact ⟨hp.1, hp.2.1, by omega⟩
  by_cases c5 : w 91 j = O c
  · simp (disch := (first | omega | (simp (disch := omega) only [zu1, zu2, zu3, nIi, g1, ej, c5]; omega))) only [if_true, if_false, zE10, zE00, zOkN, Nat.reduceAdd, Nat.reduceMul, zcl_s, zif01, zbn_e, nIi, nI_clamp, nI_add, nI_1, pk_mul, zgi, zlt, zle, Int32.zero_add, Int32.add_zero, C0, C1, G0, G1, Nat.zero_add, Nat.add_zero, l2, l3, l4, l5, l6, l7, l8, l10, l11, l12, l20, l30, l48, l50, l60, l100, l120, l140, l152, l164, l176, l188, l200, l212, l224, l1604, l1880, l2000, l2008, l2016, l2024, l2032, l2040, l2048, l2210, l2240, l2270, l2300, l2330, l2390, l2450, l2510, l2570, l2590, l2620, l2650, l2660, l2700, T0, T1, Tm1, Tm99, Tm999, p_within, p_in, p_isCell, p_isOwner, p_isDay11, p_isDay12, p_isTap11, p_isTaker11, if_pos, if_neg, p_isTap12, p_isTaker12, p_isGone, zu1, zu2, zu3, nIe, Nat.reduceSub, g1, ej, c5]
    exact hnext _ (hstep.trans (if_pos c5))
  · simp (disch := (first | omega | (simp (disch := omega) only [zu1, zu2, zu3, nIi, g1, ej, c5]; omega))) only [if_true, if_false, zE10, zE00, zOkN, Nat.reduceAdd, Nat.reduceMul, zcl_s, zif01, zbn_e, nIi, nI_clamp, nI_add, nI_1, pk_mul, zgi, zlt, zle, Int32.zero_add, Int32.add_zero, C0, C1, G0, G1, Nat.zero_add, Nat.add_zero, l2, l3, l4, l5, l6, l7, l8, l10, l11, l12, l20, l30, l48, l50, l60, l100, l120, l140, l152, l164, l176, l188, l200, l212, l224, l1604, l1880, l2000, l2008, l2016, l2024, l2032, l2040, l2048, l2210, l2240, l2270, l2300, l2330, l2390, l2450, l2510, l2570, l2590, l2620, l2650, l2660, l2700, T0, T1, Tm1, Tm99, Tm999, p_within, p_in, p_isCell, p_isOwner, p_isDay11, p_isDay12, p_isTap11, p_isTaker11, if_pos, if_neg, p_isTap12, p_isTaker12, p_isGone, zu1, zu2, zu3, nIe, Nat.reduceSub, g1, ej, c5]
    exact hnext _ (hstep.trans (if_neg c5))
theorem u_whose {n : Nat} {w : zWd} (h : qInv n w) (a d e : Int32) : qBoth n w (mX11_whose 0 a d e) (mX12_whose 231 a d e) := by
  obtain ⟨T, hT, e1, e2⟩ := q_takers h
  obtain ⟨S, hS, s1, s2⟩ := q_sales h
  have e3 : (w 232 3).toInt = T := by rw [e2, nIi (by omega)]
  rcases zX a T T rfl (by omega) with ha | ⟨a, ha, rfl⟩
  · exact qBoth_id h (-1) (by unfold mX11_whose mX11_whose_27; simp (disch := (first | omega | (simp (disch := omega) only [zu1, zu2, zu3, nIi, e1]; omega))) only [if_true, if_false, zE10, zE00, zOkN, Nat.reduceAdd, Nat.reduceMul, zcl_s, zif01, zbn_e, nIi, nI_clamp, nI_add, nI_1, pk_mul, zgi, zlt, zle, Int32.zero_add, Int32.add_zero, C0, C1, G0, G1, Nat.zero_add, Nat.add_zero, l2, l3, l4, l5, l6, l7, l8, l10, l11, l12, l20, l30, l48, l50, l60, l100, l120, l140, l152, l164, l176, l188, l200, l212, l224, l1604, l1880, l2000, l2008, l2016, l2024, l2032, l2040, l2048, l2210, l2240, l2270, l2300, l2330, l2390, l2450, l2510, l2570, l2590, l2620, l2650, l2660, l2700, T0, T1, Tm1, Tm99, Tm999, p_within, p_in, p_isCell, p_isOwner, p_isDay11, p_isDay12, p_isTap11, p_isTaker11, if_pos, if_neg, p_isTap12, p_isTaker12, p_isGone, zu1, zu2, zu3, nIe, Nat.reduceSub, e1]) (by unfold mX12_whose mX12_whose_22; simp (disch := (first | omega | (simp (disch := omega) only [zu1, zu2, zu3, nIi, e2]; omega))) only [if_true, if_false, zE10, zE00, zOkN, Nat.reduceAdd, Nat.reduceMul, zcl_s, zif01, zbn_e, nIi, nI_clamp, nI_add, nI_1, pk_mul, zgi, zlt, zle, Int32.zero_add, Int32.add_zero, C0, C1, G0, G1, Nat.zero_add, Nat.add_zero, l2, l3, l4, l5, l6, l7, l8, l10, l11, l12, l20, l30, l48, l50, l60, l100, l120, l140, l152, l164, l176, l188, l200, l212, l224, l1604, l1880, l2000, l2008, l2016, l2024, l2032, l2040, l2048, l2210, l2240, l2270, l2300, l2330, l2390, l2450, l2510, l2570, l2590, l2620, l2650, l2660, l2700, T0, T1, Tm1, Tm99, Tm999, p_within, p_in, p_isCell, p_isOwner, p_isDay11, p_isDay12, p_isTap11, p_isTaker11, if_pos, if_neg, p_isTap12, p_isTaker12, p_isGone, zu1, zu2, zu3, nIe, Nat.reduceSub, e2])
  by_cases he : -1 ≤ e.toInt ∧ e.toInt ≤ S
  rotate_left
  · refine qBoth_id h (-1) ?_ (by unfold mX12_whose mX12_whose_22; simp (disch := (first | omega | (simp (disch := omega) only [zu1, zu2, zu3, nIi, e2, s2]; omega))) only [if_true, if_false, zE10, zE00, zOkN, Nat.reduceAdd, Nat.reduceMul, zcl_s, zif01, zbn_e, nIi, nI_clamp, nI_add, nI_1, pk_mul, zgi, zlt, zle, Int32.zero_add, Int32.add_zero, C0, C1, G0, G1, Nat.zero_add, Nat.add_zero, l2, l3, l4, l5, l6, l7, l8, l10, l11, l12, l20, l30, l48, l50, l60, l100, l120, l140, l152, l164, l176, l188, l200, l212, l224, l1604, l1880, l2000, l2008, l2016, l2024, l2032, l2040, l2048, l2210, l2240, l2270, l2300, l2330, l2390, l2450, l2510, l2570, l2590, l2620, l2650, l2660, l2700, T0, T1, Tm1, Tm99, Tm999, p_within, p_in, p_isCell, p_isOwner, p_isDay11, p_isDay12, p_isTap11, p_isTaker11, if_pos, if_neg, p_isTap12, p_isTaker12, p_isGone, zu1, zu2, zu3, nIe, Nat.reduceSub, e2, s2])
    unfold mX11_whose mX11_whose_27
    by_cases c : e.toInt < -1
    · simp (disch := (first | omega | (simp (disch := omega) only [zu1, zu2, zu3, nIi, e1, s1]; omega))) only [if_true, if_false, zE10, zE00, zOkN, Nat.reduceAdd, Nat.reduceMul, zcl_s, zif01, zbn_e, nIi, nI_clamp, nI_add, nI_1, pk_mul, zgi, zlt, zle, Int32.zero_add, Int32.add_zero, C0, C1, G0, G1, Nat.zero_add, Nat.add_zero, l2, l3, l4, l5, l6, l7, l8, l10, l11, l12, l20, l30, l48, l50, l60, l100, l120, l140, l152, l164, l176, l188, l200, l212, l224, l1604, l1880, l2000, l2008, l2016, l2024, l2032, l2040, l2048, l2210, l2240, l2270, l2300, l2330, l2390, l2450, l2510, l2570, l2590, l2620, l2650, l2660, l2700, T0, T1, Tm1, Tm99, Tm999, p_within, p_in, p_isCell, p_isOwner, p_isDay11, p_isDay12, p_isTap11, p_isTaker11, if_pos, if_neg, p_isTap12, p_isTaker12, p_isGone, zu1, zu2, zu3, nIe, Nat.reduceSub, e1, s1]
    · simp (disch := (first | omega | (simp (disch := omega) only [zu1, zu2, zu3, nIi, e1, s1]; omega))) only [if_true, if_false, zE10, zE00, zOkN, Nat.reduceAdd, Nat.reduceMul, zcl_s, zif01, zbn_e, nIi, nI_clamp, nI_add, nI_1, pk_mul, zgi, zlt, zle, Int32.zero_add, Int32.add_zero, C0, C1, G0, G1, Nat.zero_add, Nat.add_zero, l2, l3, l4, l5, l6, l7, l8, l10, l11, l12, l20, l30, l48, l50, l60, l100, l120, l140, l152, l164, l176, l188, l200, l212, l224, l1604, l1880, l2000, l2008, l2016, l2024, l2032, l2040, l2048, l2210, l2240, l2270, l2300, l2330, l2390, l2450, l2510, l2570, l2590, l2620, l2650, l2660, l2700, T0, T1, Tm1, Tm99, Tm999, p_within, p_in, p_isCell, p_isOwner, p_isDay11, p_isDay12, p_isTap11, p_isTaker11, if_pos, if_neg, p_isTap12, p_isTaker12, p_isGone, zu1, zu2, zu3, nIe, Nat.reduceSub, e1, s1]
  rcases zX d 401 401 rfl (by omega) with hd | ⟨DY, hDY, rfl⟩
  · refine qBoth_id h (-2) (by unfold mX11_whose; simp (disch := (first | omega | (simp (disch := omega) only [zu1, zu2, zu3, nIi, e1, s1]; omega))) only [if_true, if_false, zE10, zE00, zOkN, Nat.reduceAdd, Nat.reduceMul, zcl_s, zif01, zbn_e, nIi, nI_clamp, nI_add, nI_1, pk_mul, zgi, zlt, zle, Int32.zero_add, Int32.add_zero, C0, C1, G0, G1, Nat.zero_add, Nat.add_zero, l2, l3, l4, l5, l6, l7, l8, l10, l11, l12, l20, l30, l48, l50, l60, l100, l120, l140, l152, l164, l176, l188, l200, l212, l224, l1604, l1880, l2000, l2008, l2016, l2024, l2032, l2040, l2048, l2210, l2240, l2270, l2300, l2330, l2390, l2450, l2510, l2570, l2590, l2620, l2650, l2660, l2700, T0, T1, Tm1, Tm99, Tm999, p_within, p_in, p_isCell, p_isOwner, p_isDay11, p_isDay12, p_isTap11, p_isTaker11, if_pos, if_neg, p_isTap12, p_isTaker12, p_isGone, zu1, zu2, zu3, nIe, Nat.reduceSub, e1, s1]) (by unfold mX12_whose; simp (disch := (first | omega | (simp (disch := omega) only [zu1, zu2, zu3, nIi, e2, s2]; omega))) only [if_true, if_false, zE10, zE00, zOkN, Nat.reduceAdd, Nat.reduceMul, zcl_s, zif01, zbn_e, nIi, nI_clamp, nI_add, nI_1, pk_mul, zgi, zlt, zle, Int32.zero_add, Int32.add_zero, C0, C1, G0, G1, Nat.zero_add, Nat.add_zero, l2, l3, l4, l5, l6, l7, l8, l10, l11, l12, l20, l30, l48, l50, l60, l100, l120, l140, l152, l164, l176, l188, l200, l212, l224, l1604, l1880, l2000, l2008, l2016, l2024, l2032, l2040, l2048, l2210, l2240, l2270, l2300, l2330, l2390, l2450, l2510, l2570, l2590, l2620, l2650, l2660, l2700, T0, T1, Tm1, Tm99, Tm999, p_within, p_in, p_isCell, p_isOwner, p_isDay11, p_isDay12, p_isTap11, p_isTaker11, if_pos, if_neg, p_isTap12, p_isTaker12, p_isGone, zu1, zu2, zu3, nIe, Nat.reduceSub, e2, s2])
  obtain ⟨N, hN, n1, n2⟩ : ∃ N : Nat, N ≤ S ∧ mX11_whose 0 (nI a) (nI DY) e w = mX11_whose_66 (nI N) (nI DY) (nI a) 82 w ∧ mX12_whose 231 (nI a) (nI DY) e w = mX12_whose_49 231 (nI a) (nI DY) (nI N) w := by
    by_cases c : e = -1
    · subst c
      refine ⟨S, Nat.le_refl S, ?_, ?_⟩
      · unfold mX11_whose; simp (disch := (first | omega | (simp (disch := omega) only [zu1, zu2, zu3, nIi, e1, s1]; omega))) only [if_true, if_false, zE10, zE00, zOkN, Nat.reduceAdd, Nat.reduceMul, zcl_s, zif01, zbn_e, nIi, nI_clamp, nI_add, nI_1, pk_mul, zgi, zlt, zle, Int32.zero_add, Int32.add_zero, C0, C1, G0, G1, Nat.zero_add, Nat.add_zero, l2, l3, l4, l5, l6, l7, l8, l10, l11, l12, l20, l30, l48, l50, l60, l100, l120, l140, l152, l164, l176, l188, l200, l212, l224, l1604, l1880, l2000, l2008, l2016, l2024, l2032, l2040, l2048, l2210, l2240, l2270, l2300, l2330, l2390, l2450, l2510, l2570, l2590, l2620, l2650, l2660, l2700, T0, T1, Tm1, Tm99, Tm999, p_within, p_in, p_isCell, p_isOwner, p_isDay11, p_isDay12, p_isTap11, p_isTaker11, if_pos, if_neg, p_isTap12, p_isTaker12, p_isGone, zu1, zu2, zu3, nIe, Nat.reduceSub, e1, s1]
      · unfold mX12_whose; simp (disch := (first | omega | (simp (disch := omega) only [zu1, zu2, zu3, nIi, e2, s2]; omega))) only [if_true, if_false, zE10, zE00, zOkN, Nat.reduceAdd, Nat.reduceMul, zcl_s, zif01, zbn_e, nIi, nI_clamp, nI_add, nI_1, pk_mul, zgi, zlt, zle, Int32.zero_add, Int32.add_zero, C0, C1, G0, G1, Nat.zero_add, Nat.add_zero, l2, l3, l4, l5, l6, l7, l8, l10, l11, l12, l20, l30, l48, l50, l60, l100, l120, l140, l152, l164, l176, l188, l200, l212, l224, l1604, l1880, l2000, l2008, l2016, l2024, l2032, l2040, l2048, l2210, l2240, l2270, l2300, l2330, l2390, l2450, l2510, l2570, l2590, l2620, l2650, l2660, l2700, T0, T1, Tm1, Tm99, Tm999, p_within, p_in, p_isCell, p_isOwner, p_isDay11, p_isDay12, p_isTap11, p_isTaker11, if_pos, if_neg, p_isTap12, p_isTaker12, p_isGone, zu1, zu2, zu3, nIe, Nat.reduceSub, e2, s2]
    · have c2 : 0 ≤ e.toInt := by
        have : ¬ e.toInt = -1 := fun q => c (Int32.toInt_inj.mp (q.trans Tm1.symm))
        omega
      obtain ⟨N, y1, y2, y3, _⟩ := qNat (x := e) (lo := 0) (hi := S) ⟨c2, he.2⟩ (Int.le_refl 0)
      subst y1
      refine ⟨N, by omega, ?_, ?_⟩
      · unfold mX11_whose; simp (disch := (first | omega | (simp (disch := omega) only [zu1, zu2, zu3, nIi, e1, s1]; omega))) only [if_true, if_false, zE10, zE00, zOkN, Nat.reduceAdd, Nat.reduceMul, zcl_s, zif01, zbn_e, nIi, nI_clamp, nI_add, nI_1, pk_mul, zgi, zlt, zle, Int32.zero_add, Int32.add_zero, C0, C1, G0, G1, Nat.zero_add, Nat.add_zero, l2, l3, l4, l5, l6, l7, l8, l10, l11, l12, l20, l30, l48, l50, l60, l100, l120, l140, l152, l164, l176, l188, l200, l212, l224, l1604, l1880, l2000, l2008, l2016, l2024, l2032, l2040, l2048, l2210, l2240, l2270, l2300, l2330, l2390, l2450, l2510, l2570, l2590, l2620, l2650, l2660, l2700, T0, T1, Tm1, Tm99, Tm999, p_within, p_in, p_isCell, p_isOwner, p_isDay11, p_isDay12, p_isTap11, p_isTaker11, if_pos, if_neg, p_isTap12, p_isTaker12, p_isGone, zu1, zu2, zu3, nIe, Nat.reduceSub, e1, s1]
      · unfold mX12_whose; simp (disch := (first | omega | (simp (disch := omega) only [zu1, zu2, zu3, nIi, e2, s2, c]; omega))) only [if_true, if_false, zE10, zE00, zOkN, Nat.reduceAdd, Nat.reduceMul, zcl_s, zif01, zbn_e, nIi, nI_clamp, nI_add, nI_1, pk_mul, zgi, zlt, zle, Int32.zero_add, Int32.add_zero, C0, C1, G0, G1, Nat.zero_add, Nat.add_zero, l2, l3, l4, l5, l6, l7, l8, l10, l11, l12, l20, l30, l48, l50, l60, l100, l120, l140, l152, l164, l176, l188, l200, l212, l224, l1604, l1880, l2000, l2008, l2016, l2024, l2032, l2040, l2048, l2210, l2240, l2270, l2300, l2330, l2390, l2450, l2510, l2570, l2590, l2620, l2650, l2660, l2700, T0, T1, Tm1, Tm99, Tm999, p_within, p_in, p_isCell, p_isOwner, p_isDay11, p_isDay12, p_isTap11, p_isTaker11, if_pos, if_neg, p_isTap12, p_isTaker12, p_isGone, zu1, zu2, zu3, nIe, Nat.reduceSub, e2, s2, c]
  have hB : ∀ (b o m : Nat) (hb : qBk[b]? = some (o, 0, m, 30)) (ho : o < 102) (i : Nat), i < 30 → w (1 + o) i = w 232 (m + i) := fun b o m hb ho i hi => by
    have := qTo h b hb ho hi
    rwa [Nat.zero_add] at this
  have b90 := hB 20 89 2210 rfl (by decide)
  have b91 := hB 21 90 2240 rfl (by decide)
  have b92 := hB 22 91 2270 rfl (by decide)
  have b93 := hB 23 92 2300 rfl (by decide)
  have hD : ∀ j, j < N → w 93 j = nI ((w 93 j).toNatClampNeg) ∧ (w 93 j).toNatClampNeg ≤ 400 := by
    intro j hj
    obtain ⟨K, k1, k2, _⟩ := qSc h 23 27 rfl rfl (by decide) (i := j) (by omega)
    simp only [Nat.zero_add, Nat.reduceAdd] at k2
    have k3 : K ≤ 400 := k1
    rw [k2, nI_clamp (by omega)]
    exact ⟨rfl, k3⟩
  refine qBoth_id h (qOw (nI a) N (w 90) (w 93) (w 91) (w 92) (30 * (DY + 1))) ?_ ?_
  · rw [n1]
    unfold mX11_whose_66
    rw [s_owner (by omega) hD (by omega), zcl_s]
  · rw [n2]
    unfold mX12_whose_49
    rw [s_whose12 (by omega) (by omega), qOw_congr (by omega) (fun i hi => ⟨b90 i (by omega), b93 i (by omega), b91 i (by omega), b92 i (by omega)⟩)]
