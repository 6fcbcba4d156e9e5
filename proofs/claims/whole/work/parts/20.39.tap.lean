/-- how far two cells are from one another -/
def qDs (a b : Int32) : Int32 := qAb ((a - a / 6 * 6) - (b - b / 6 * 6)) + qAb (a / 6 - b / 6)
theorem p_dist (a b : Int32) (w : zWd) : mX11_distance a b w = some (qDs a b, w) := by
  unfold mX11_distance qDs
  simp only [zle, T0, ab_c, zbn_e]
theorem p_apart (a b : Int32) (w : zWd) : mX12_apart a b w = some (qDs a b, w) := by
  unfold mX12_apart qDs
  simp only [p_size, zcl_s]
/-- a tap stands in the cell -/
theorem s_hasTap11 {w : zWd} {K : Nat} (hK : K ≤ 12) (e : w 2 1 = nI K) (c : Int32) : mX0_hasTapAt 2 c w = some (if ∃ i, i < K ∧ w 5 i = c then 1 else 0, w) := by
  unfold mX0_hasTapAt mX0_hasTapAt_2
  by_cases hm : ∃ i, i < K ∧ w 5 i = c
  · rw [if_pos hm]
    refine zlp_to (P := fun i q => q = (nI i, w) ∧ ∀ j, j < i → ¬ w 5 j = c) (n := K) (by unfold zFU; omega) ?_ ⟨rfl, fun j hj => by omega⟩
    rintro i hi q ⟨rfl, hn⟩ k hk
    simp only [mX0_hasTapAt_2b]
    by_cases h : i = K
    · subst h
      obtain ⟨j, h1, h2⟩ := hm
      exact absurd h2 (hn j h1)
    · by_cases g : w 5 i = c
      · simp (disch := (first | omega | (simp (disch := omega) only [zu1, zu2, zu3, nIi, e, g, zgd_t zB1]; omega))) only [if_true, if_false, zE10, zE00, zOkN, Nat.reduceAdd, Nat.reduceMul, zcl_s, zif01, zbn_e, nIi, nI_clamp, nI_add, nI_1, pk_mul, zgi, zlt, zle, Int32.zero_add, Int32.add_zero, C0, C1, G0, G1, Nat.zero_add, Nat.add_zero, l2, l3, l4, l5, l6, l7, l8, l10, l11, l12, l20, l30, l48, l50, l60, l100, l120, l140, l152, l164, l176, l188, l200, l212, l224, l1604, l1880, l2000, l2008, l2016, l2024, l2032, l2040, l2048, l2210, l2240, l2270, l2300, l2330, l2390, l2450, l2510, l2570, l2590, l2620, l2650, l2660, l2700, T0, T1, Tm1, Tm99, Tm999, p_within, p_in, p_isCell, p_isOwner, p_isDay11, p_isDay12, p_isTap11, p_isTaker11, if_pos, if_neg, p_isTap12, p_isTaker12, p_isGone, zu1, zu2, zu3, nIe, Nat.reduceSub, e, g, zgd_t zB1]
      · simp (disch := (first | omega | (simp (disch := omega) only [zu1, zu2, zu3, nIi, e, g, zgd_t zB1]; omega))) only [if_true, if_false, zE10, zE00, zOkN, Nat.reduceAdd, Nat.reduceMul, zcl_s, zif01, zbn_e, nIi, nI_clamp, nI_add, nI_1, pk_mul, zgi, zlt, zle, Int32.zero_add, Int32.add_zero, C0, C1, G0, G1, Nat.zero_add, Nat.add_zero, l2, l3, l4, l5, l6, l7, l8, l10, l11, l12, l20, l30, l48, l50, l60, l100, l120, l140, l152, l164, l176, l188, l200, l212, l224, l1604, l1880, l2000, l2008, l2016, l2024, l2032, l2040, l2048, l2210, l2240, l2270, l2300, l2330, l2390, l2450, l2510, l2570, l2590, l2620, l2650, l2660, l2700, T0, T1, Tm1, Tm99, Tm999, p_within, p_in, p_isCell, p_isOwner, p_isDay11, p_isDay12, p_isTap11, p_isTaker11, if_pos, if_neg, p_isTap12, p_isTaker12, p_isGone, zu1, zu2, zu3, nIe, Nat.reduceSub, e, g, zgd_t zB1]
        refine hk (by omega) _ ⟨rfl, fun j hj => ?_⟩
        by_cases hj2 : j = i
        · subst hj2; exact g
        · exact hn j (by omega)
  · rw [if_neg hm]
    refine zlp_to (P := fun i q => q = (nI i, w)) (n := K) (by unfold zFU; omega) ?_ rfl
    rintro i hi q rfl k hk
    simp only [mX0_hasTapAt_2b]
    by_cases h : i = K
    · subst h
      simp (disch := (first | omega | (simp (disch := omega) only [zu1, zu2, zu3, nIi, e, zgd_t zB0]; omega))) only [if_true, if_false, zE10, zE00, zOkN, Nat.reduceAdd, Nat.reduceMul, zcl_s, zif01, zbn_e, nIi, nI_clamp, nI_add, nI_1, pk_mul, zgi, zlt, zle, Int32.zero_add, Int32.add_zero, C0, C1, G0, G1, Nat.zero_add, Nat.add_zero, l2, l3, l4, l5, l6, l7, l8, l10, l11, l12, l20, l30, l48, l50, l60, l100, l120, l140, l152, l164, l176, l188, l200, l212, l224, l1604, l1880, l2000, l2008, l2016, l2024, l2032, l2040, l2048, l2210, l2240, l2270, l2300, l2330, l2390, l2450, l2510, l2570, l2590, l2620, l2650, l2660, l2700, T0, T1, Tm1, Tm99, Tm999, p_within, p_in, p_isCell, p_isOwner, p_isDay11, p_isDay12, p_isTap11, p_isTaker11, if_pos, if_neg, p_isTap12, p_isTaker12, p_isGone, zu1, zu2, zu3, nIe, Nat.reduceSub, e, zgd_t zB0]
    · have g : ¬ w 5 i = c := fun q => hm ⟨i, by omega, q⟩
      simp (disch := (first | omega | (simp (disch := omega) only [zu1, zu2, zu3, nIi, e, g, zgd_t zB1]; omega))) only [if_true, if_false, zE10, zE00, zOkN, Nat.reduceAdd, Nat.reduceMul, zcl_s, zif01, zbn_e, nIi, nI_clamp, nI_add, nI_1, pk_mul, zgi, zlt, zle, Int32.zero_add, Int32.add_zero, C0, C1, G0, G1, Nat.zero_add, Nat.add_zero, l2, l3, l4, l5, l6, l7, l8, l10, l11, l12, l20, l30, l48, l50, l60, l100, l120, l140, l152, l164, l176, l188, l200, l212, l224, l1604, l1880, l2000, l2008, l2016, l2024, l2032, l2040, l2048, l2210, l2240, l2270, l2300, l2330, l2390, l2450, l2510, l2570, l2590, l2620, l2650, l2660, l2700, T0, T1, Tm1, Tm99, Tm999, p_within, p_in, p_isCell, p_isOwner, p_isDay11, p_isDay12, p_isTap11, p_isTaker11, if_pos, if_neg, p_isTap12, p_isTaker12, p_isGone, zu1, zu2, zu3, nIe, Nat.reduceSub, e, g, zgd_t zB1]
      exact hk (by omega) _ rfl
theorem s_hasTap12 {w : zWd} {K : Nat} (hK : K ≤ 12) (e : w 232 1 = nI K) (c : Int32) : mX12_hasTap 231 c w = some (if ∃ i, i < K ∧ w 232 (152 + i) = c then 1 else 0, w) := by
  unfold mX12_hasTap mX12_hasTap_4
  have i10 : ((1 : Int32) = 0) = False := by simp
  refine zlp_to (P := fun i q => q = (if ∃ j, j < i ∧ w 232 (152 + j) = c then 1 else 0, nI i, w)) (n := K) (by unfold zFU; omega) ?_ (by rw [if_neg (fun q => by obtain ⟨j, hj, _⟩ := q; omega)]; rfl)
  rintro i hi q rfl k hk
  simp only [mX12_hasTap_4b, mX12_hasTap_32, mX12_hasTap_37]
  by_cases h : i = K
  · subst h
    simp (disch := (first | omega | (simp (disch := omega) only [zu1, zu2, zu3, nIi, e, zgd_t (zBif _)]; omega))) only [if_true, if_false, zE10, zE00, zOkN, Nat.reduceAdd, Nat.reduceMul, zcl_s, zif01, zbn_e, nIi, nI_clamp, nI_add, nI_1, pk_mul, zgi, zlt, zle, Int32.zero_add, Int32.add_zero, C0, C1, G0, G1, Nat.zero_add, Nat.add_zero, l2, l3, l4, l5, l6, l7, l8, l10, l11, l12, l20, l30, l48, l50, l60, l100, l120, l140, l152, l164, l176, l188, l200, l212, l224, l1604, l1880, l2000, l2008, l2016, l2024, l2032, l2040, l2048, l2210, l2240, l2270, l2300, l2330, l2390, l2450, l2510, l2570, l2590, l2620, l2650, l2660, l2700, T0, T1, Tm1, Tm99, Tm999, p_within, p_in, p_isCell, p_isOwner, p_isDay11, p_isDay12, p_isTap11, p_isTaker11, if_pos, if_neg, p_isTap12, p_isTaker12, p_isGone, zu1, zu2, zu3, nIe, Nat.reduceSub, e, zgd_t (zBif _)]
  have hk2 : ∀ x, (if ∃ j, j < i + 1 ∧ w 232 (152 + j) = c then (1 : Int32) else 0) = x → k (x, nI (i + 1), w) = some (if ∃ j, j < K ∧ w 232 (152 + j) = c then 1 else 0, w) := fun x hx => hk (by omega) _ (by rw [← hx])
  by_cases hm : ∃ j, j < i ∧ w 232 (152 + j) = c
  · rw [if_pos hm]
    simp (disch := (first | omega | (simp (disch := omega) only [zu1, zu2, zu3, nIi, e, i10]; omega))) only [if_true, if_false, zE10, zE00, zOkN, Nat.reduceAdd, Nat.reduceMul, zcl_s, zif01, zbn_e, nIi, nI_clamp, nI_add, nI_1, pk_mul, zgi, zlt, zle, Int32.zero_add, Int32.add_zero, C0, C1, G0, G1, Nat.zero_add, Nat.add_zero, l2, l3, l4, l5, l6, l7, l8, l10, l11, l12, l20, l30, l48, l50, l60, l100, l120, l140, l152, l164, l176, l188, l200, l212, l224, l1604, l1880, l2000, l2008, l2016, l2024, l2032, l2040, l2048, l2210, l2240, l2270, l2300, l2330, l2390, l2450, l2510, l2570, l2590, l2620, l2650, l2660, l2700, T0, T1, Tm1, Tm99, Tm999, p_within, p_in, p_isCell, p_isOwner, p_isDay11, p_isDay12, p_isTap11, p_isTaker11, if_pos, if_neg, p_isTap12, p_isTaker12, p_isGone, zu1, zu2, zu3, nIe, Nat.reduceSub, e, i10]
    exact hk2 _ (if_pos (by obtain ⟨j, h1, h2⟩ := hm; exact ⟨j, by omega, h2⟩))
  · rw [if_neg hm]
    by_cases g : w 232 (152 + i) = c
    · simp (disch := (first | omega | (simp (disch := omega) only [zu1, zu2, zu3, nIi, e, g]; omega))) only [if_true, if_false, zE10, zE00, zOkN, Nat.reduceAdd, Nat.reduceMul, zcl_s, zif01, zbn_e, nIi, nI_clamp, nI_add, nI_1, pk_mul, zgi, zlt, zle, Int32.zero_add, Int32.add_zero, C0, C1, G0, G1, Nat.zero_add, Nat.add_zero, l2, l3, l4, l5, l6, l7, l8, l10, l11, l12, l20, l30, l48, l50, l60, l100, l120, l140, l152, l164, l176, l188, l200, l212, l224, l1604, l1880, l2000, l2008, l2016, l2024, l2032, l2040, l2048, l2210, l2240, l2270, l2300, l2330, l2390, l2450, l2510, l2570, l2590, l2620, l2650, l2660, l2700, T0, T1, Tm1, Tm99, Tm999, p_within, p_in, p_isCell, p_isOwner, p_isDay11, p_isDay12, p_isTap11, p_isTaker11, if_pos, if_neg, p_isTap12, p_isTaker12, p_isGone, zu1, zu2, zu3, nIe, Nat.reduceSub, e, g]
      exact hk2 _ (if_pos ⟨i, by omega, g⟩)
    · simp (disch := (first | omega | (simp (disch := omega) only [zu1, zu2, zu3, nIi, e, g]; omega))) only [if_true, if_false, zE10, zE00, zOkN, Nat.reduceAdd, Nat.reduceMul, zcl_s, zif01, zbn_e, nIi, nI_clamp, nI_add, nI_1, pk_mul, zgi, zlt, zle, Int32.zero_add, Int32.add_zero, C0, C1, G0, G1, Nat.zero_add, Nat.add_zero, l2, l3, l4, l5, l6, l7, l8, l10, l11, l12, l20, l30, l48, l50, l60, l100, l120, l140, l152, l164, l176, l188, l200, l212, l224, l1604, l1880, l2000, l2008, l2016, l2024, l2032, l2040, l2048, l2210, l2240, l2270, l2300, l2330, l2390, l2450, l2510, l2570, l2590, l2620, l2650, l2660, l2700, T0, T1, Tm1, Tm99, Tm999, p_within, p_in, p_isCell, p_isOwner, p_isDay11, p_isDay12, p_isTap11, p_isTaker11, if_pos, if_neg, p_isTap12, p_isTaker12, p_isGone, zu1, zu2, zu3, nIe, Nat.reduceSub, e, g]
      refine hk2 _ (if_neg (fun q => ?_))
      obtain ⟨j, h1, h2⟩ := q
      by_cases ej : j = i
      · subst ej; exact g h2
      · exact hm ⟨j, by omega, h2⟩
/-- a BORE may be told -/
theorem s_mayBe {n : Nat} {w : zWd} (h : qInv n w) (kd cell depth : Int32) : ∃ b : Bool, (∀ u, qRc w u → mX10_mayBe 1 kd cell depth u = some (if b then 1 else 0, u)) ∧ ∀ u, u 232 = w 232 → ∃ u', mX12_mayBe 231 cell kd depth u = some (if b then 1 else 0, u') ∧ qS1 u u' := by
  obtain ⟨D, hD, d1, d2⟩ := q_today h
  obtain ⟨T, hT, e1, e2⟩ := q_taps h
  obtain ⟨x1, hx1, g1c, g1⟩ := q_rules h (N := 1) (by omega) (nI D)
  obtain ⟨x2, hx2, g2c, g2⟩ := q_rules h (N := 2) (by omega) (nI D)
  have i10 : ((1 : Int32) = 0) = False := by simp
  have dp : ∀ p : Prop, ∀ _ : Decidable p, (if (decide p) = true then (1 : Int32) else 0) = if p then 1 else 0 := fun p _ => by by_cases hp : p <;> simp [hp]
  let dm : Nat := if kd = 2 then 2 * x1 else x1
  have hdm : dm ≤ 1998 := by show (if kd = 2 then 2 * x1 else x1) ≤ 1998; by_cases c : kd = 2 <;> simp only [c, if_true, if_false] <;> omega
  refine ⟨decide (depth.toInt ≤ dm ∧ ∀ t, t < T → (x2 : Int) ≤ (qDs (w 5 t) cell).toInt), fun u gu => ?_, fun u hu => ?_⟩
  all_goals simp only [dp]
  · have q1 : u 1 0 = nI D := by rw [gu 1 (by omega) (by omega)]; exact d1
    have q3 : u 2 1 = nI T := by rw [gu 2 (by omega) (by omega)]; exact e1
    have u3 : ∀ t, u 5 t = w 5 t := fun t => by rw [gu 5 (by omega) (by omega)]
    have ha : ∀ s0 : Nat, s0 ≤ 1998 → mX10_mayBe_26 1 cell (nI s0) depth u = some (if depth.toInt ≤ s0 ∧ ∀ t, t < T → (x2 : Int) ≤ (qDs (w 5 t) cell).toInt then 1 else 0, u) := by
      intro s0 hs0
      unfold mX10_mayBe_26
      by_cases c : depth.toInt ≤ s0
      rotate_left
      · rw [if_neg (show ¬ (depth.toInt ≤ s0 ∧ ∀ t, t < T → (x2 : Int) ≤ (qDs (w 5 t) cell).toInt) from fun q => c q.1)]
        simp (disch := (first | omega | (simp (disch := omega) only [zu1, zu2, zu3, nIi, zgd_t zB0]; omega))) only [if_true, if_false, zE10, zE00, zOkN, Nat.reduceAdd, Nat.reduceMul, zcl_s, zif01, zbn_e, nIi, nI_clamp, nI_add, nI_1, pk_mul, zgi, zlt, zle, Int32.zero_add, Int32.add_zero, C0, C1, G0, G1, Nat.zero_add, Nat.add_zero, l2, l3, l4, l5, l6, l7, l8, l10, l11, l12, l20, l30, l48, l50, l60, l100, l120, l140, l152, l164, l176, l188, l200, l212, l224, l1604, l1880, l2000, l2008, l2016, l2024, l2032, l2040, l2048, l2210, l2240, l2270, l2300, l2330, l2390, l2450, l2510, l2570, l2590, l2620, l2650, l2660, l2700, T0, T1, Tm1, Tm99, Tm999, p_within, p_in, p_isCell, p_isOwner, p_isDay11, p_isDay12, p_isTap11, p_isTaker11, if_pos, if_neg, p_isTap12, p_isTaker12, p_isGone, zu1, zu2, zu3, nIe, Nat.reduceSub, zgd_t zB0]
      have g2u := g2c u gu
      simp (disch := (first | omega | (simp (disch := omega) only [zu1, zu2, zu3, nIi, q1, g2u]; omega))) only [if_true, if_false, zE10, zE00, zOkN, Nat.reduceAdd, Nat.reduceMul, zcl_s, zif01, zbn_e, nIi, nI_clamp, nI_add, nI_1, pk_mul, zgi, zlt, zle, Int32.zero_add, Int32.add_zero, C0, C1, G0, G1, Nat.zero_add, Nat.add_zero, l2, l3, l4, l5, l6, l7, l8, l10, l11, l12, l20, l30, l48, l50, l60, l100, l120, l140, l152, l164, l176, l188, l200, l212, l224, l1604, l1880, l2000, l2008, l2016, l2024, l2032, l2040, l2048, l2210, l2240, l2270, l2300, l2330, l2390, l2450, l2510, l2570, l2590, l2620, l2650, l2660, l2700, T0, T1, Tm1, Tm99, Tm999, p_within, p_in, p_isCell, p_isOwner, p_isDay11, p_isDay12, p_isTap11, p_isTaker11, if_pos, if_neg, p_isTap12, p_isTaker12, p_isGone, zu1, zu2, zu3, nIe, Nat.reduceSub, q1, g2u]
      unfold mX10_mayBe_45
      by_cases hm : ∃ t, t < T ∧ (qDs (w 5 t) cell).toInt < x2
      · rw [if_neg (fun q => by obtain ⟨t, h1, h2⟩ := hm; have := q.2 t h1; omega)]
        refine zlp_to (P := fun i q => q = (nI i, u) ∧ ∀ t, t < i → ¬ (qDs (w 5 t) cell).toInt < x2) (n := T) (by unfold zFU; omega) ?_ ⟨rfl, fun j hj => by omega⟩
        rintro i hi q ⟨rfl, hn⟩ k hk
        simp only [mX10_mayBe_45b]
        by_cases h : i = T
        · subst h
          obtain ⟨j, h1, h2⟩ := hm
          exact absurd h2 (hn j h1)
        · by_cases g : (qDs (w 5 i) cell).toInt < x2
          · simp (disch := (first | omega | (simp (disch := omega) only [zu1, zu2, zu3, nIi, q3, u3, p_dist, zgd_t zB0]; omega))) only [if_true, if_false, zE10, zE00, zOkN, Nat.reduceAdd, Nat.reduceMul, zcl_s, zif01, zbn_e, nIi, nI_clamp, nI_add, nI_1, pk_mul, zgi, zlt, zle, Int32.zero_add, Int32.add_zero, C0, C1, G0, G1, Nat.zero_add, Nat.add_zero, l2, l3, l4, l5, l6, l7, l8, l10, l11, l12, l20, l30, l48, l50, l60, l100, l120, l140, l152, l164, l176, l188, l200, l212, l224, l1604, l1880, l2000, l2008, l2016, l2024, l2032, l2040, l2048, l2210, l2240, l2270, l2300, l2330, l2390, l2450, l2510, l2570, l2590, l2620, l2650, l2660, l2700, T0, T1, Tm1, Tm99, Tm999, p_within, p_in, p_isCell, p_isOwner, p_isDay11, p_isDay12, p_isTap11, p_isTaker11, if_pos, if_neg, p_isTap12, p_isTaker12, p_isGone, zu1, zu2, zu3, nIe, Nat.reduceSub, q3, u3, p_dist, zgd_t zB0]
          · simp (disch := (first | omega | (simp (disch := omega) only [zu1, zu2, zu3, nIi, q3, u3, p_dist, zgd_t zB0]; omega))) only [if_true, if_false, zE10, zE00, zOkN, Nat.reduceAdd, Nat.reduceMul, zcl_s, zif01, zbn_e, nIi, nI_clamp, nI_add, nI_1, pk_mul, zgi, zlt, zle, Int32.zero_add, Int32.add_zero, C0, C1, G0, G1, Nat.zero_add, Nat.add_zero, l2, l3, l4, l5, l6, l7, l8, l10, l11, l12, l20, l30, l48, l50, l60, l100, l120, l140, l152, l164, l176, l188, l200, l212, l224, l1604, l1880, l2000, l2008, l2016, l2024, l2032, l2040, l2048, l2210, l2240, l2270, l2300, l2330, l2390, l2450, l2510, l2570, l2590, l2620, l2650, l2660, l2700, T0, T1, Tm1, Tm99, Tm999, p_within, p_in, p_isCell, p_isOwner, p_isDay11, p_isDay12, p_isTap11, p_isTaker11, if_pos, if_neg, p_isTap12, p_isTaker12, p_isGone, zu1, zu2, zu3, nIe, Nat.reduceSub, q3, u3, p_dist, zgd_t zB0]
            refine hk (by omega) _ ⟨rfl, fun j hj => ?_⟩
            by_cases hj2 : j = i
            · subst hj2; exact g
            · exact hn j (by omega)
      · rw [if_pos ⟨c, fun t ht => by
          by_cases g : (qDs (w 5 t) cell).toInt < x2
          · exact absurd ⟨t, ht, g⟩ hm
          · omega⟩]
        refine zlp_to (P := fun i q => q = (nI i, u)) (n := T) (by unfold zFU; omega) ?_ rfl
        rintro i hi q rfl k hk
        simp only [mX10_mayBe_45b]
        by_cases h : i = T
        · subst h
          simp (disch := (first | omega | (simp (disch := omega) only [zu1, zu2, zu3, nIi, q3, zgd_t zB1]; omega))) only [if_true, if_false, zE10, zE00, zOkN, Nat.reduceAdd, Nat.reduceMul, zcl_s, zif01, zbn_e, nIi, nI_clamp, nI_add, nI_1, pk_mul, zgi, zlt, zle, Int32.zero_add, Int32.add_zero, C0, C1, G0, G1, Nat.zero_add, Nat.add_zero, l2, l3, l4, l5, l6, l7, l8, l10, l11, l12, l20, l30, l48, l50, l60, l100, l120, l140, l152, l164, l176, l188, l200, l212, l224, l1604, l1880, l2000, l2008, l2016, l2024, l2032, l2040, l2048, l2210, l2240, l2270, l2300, l2330, l2390, l2450, l2510, l2570, l2590, l2620, l2650, l2660, l2700, T0, T1, Tm1, Tm99, Tm999, p_within, p_in, p_isCell, p_isOwner, p_isDay11, p_isDay12, p_isTap11, p_isTaker11, if_pos, if_neg, p_isTap12, p_isTaker12, p_isGone, zu1, zu2, zu3, nIe, Nat.reduceSub, q3, zgd_t zB1]
        · have g : ¬ (qDs (w 5 i) cell).toInt < x2 := fun q => hm ⟨i, by omega, q⟩
          simp (disch := (first | omega | (simp (disch := omega) only [zu1, zu2, zu3, nIi, q3, u3, p_dist, zgd_t zB0]; omega))) only [if_true, if_false, zE10, zE00, zOkN, Nat.reduceAdd, Nat.reduceMul, zcl_s, zif01, zbn_e, nIi, nI_clamp, nI_add, nI_1, pk_mul, zgi, zlt, zle, Int32.zero_add, Int32.add_zero, C0, C1, G0, G1, Nat.zero_add, Nat.add_zero, l2, l3, l4, l5, l6, l7, l8, l10, l11, l12, l20, l30, l48, l50, l60, l100, l120, l140, l152, l164, l176, l188, l200, l212, l224, l1604, l1880, l2000, l2008, l2016, l2024, l2032, l2040, l2048, l2210, l2240, l2270, l2300, l2330, l2390, l2450, l2510, l2570, l2590, l2620, l2650, l2660, l2700, T0, T1, Tm1, Tm99, Tm999, p_within, p_in, p_isCell, p_isOwner, p_isDay11, p_isDay12, p_isTap11, p_isTaker11, if_pos, if_neg, p_isTap12, p_isTaker12, p_isGone, zu1, zu2, zu3, nIe, Nat.reduceSub, q3, u3, p_dist, zgd_t zB0]
          exact hk (by omega) _ rfl
    have g1u : mX10_rules 1 1 (nI D) u = some (nI x1, u) := g1c u gu
    unfold mX10_mayBe
    rw [q1, g1u, zcl_s]
    by_cases c : kd = 2
    · have : dm = 2 * x1 := if_pos c
      rw [if_pos c, show (2 : Int32) * nI x1 = nI (2 * x1) from pk_mul 2 x1, ha _ (by omega), this]
    · have : dm = x1 := if_neg c
      rw [if_neg c, ha _ (by omega), this]
  · have q2 : u 232 0 = nI D := by rw [hu]; exact d2
    have q4 : u 232 1 = nI T := by rw [hu]; exact e2
    have u4 : ∀ t, t < T → u 232 (152 + t) = w 5 t := fun t ht => by
      have := (h.1.2.2.1 t (by omega)).1 (by rw [e2, nIi (by omega)]; omega)
      rw [hu, ← this.2.1, qVw_at w (by decide)]
    have hl : ∀ (b0 : Bool) (u1 : zWd), qS1 u u1 → ∃ u', mX12_mayBe_41 231 cell (if b0 then 1 else 0) 0 u1 = some (if b0 = true ∧ ∀ t, t < T → (x2 : Int) ≤ (qDs (w 5 t) cell).toInt then 1 else 0, u') ∧ qS1 u u' := by
      intro b0 u1 hu1
      unfold mX12_mayBe_41
      refine zlp_R (R := fun X => ∃ u', X = some (if b0 = true ∧ ∀ t, t < T → (x2 : Int) ≤ (qDs (w 5 t) cell).toInt then 1 else 0, u') ∧ qS1 u u') (P := fun i q => ∃ u2, q = (if b0 = true ∧ ∀ t, t < i → (x2 : Int) ≤ (qDs (w 5 t) cell).toInt then 1 else 0, nI i, u2) ∧ qS1 u u2) (n := T) (by unfold zFU; omega) ?_ ⟨u1, by cases b0 <;> simp <;> rfl, hu1⟩
      rintro i hi q ⟨u2, rfl, hu2⟩ k hk
      have e232 := hu2.1 232 (by decide)
      simp only [mX12_mayBe_41b, mX12_mayBe_90, mX12_mayBe_91]
      by_cases h : i = T
      · subst h
        refine ⟨u2, ?_, hu2⟩
        simp (disch := (first | omega | (simp (disch := omega) only [zu1, zu2, zu3, nIi, e232, q4, zgd_t (zBif _)]; omega))) only [if_true, if_false, zE10, zE00, zOkN, Nat.reduceAdd, Nat.reduceMul, zcl_s, zif01, zbn_e, nIi, nI_clamp, nI_add, nI_1, pk_mul, zgi, zlt, zle, Int32.zero_add, Int32.add_zero, C0, C1, G0, G1, Nat.zero_add, Nat.add_zero, l2, l3, l4, l5, l6, l7, l8, l10, l11, l12, l20, l30, l48, l50, l60, l100, l120, l140, l152, l164, l176, l188, l200, l212, l224, l1604, l1880, l2000, l2008, l2016, l2024, l2032, l2040, l2048, l2210, l2240, l2270, l2300, l2330, l2390, l2450, l2510, l2570, l2590, l2620, l2650, l2660, l2700, T0, T1, Tm1, Tm99, Tm999, p_within, p_in, p_isCell, p_isOwner, p_isDay11, p_isDay12, p_isTap11, p_isTaker11, if_pos, if_neg, p_isTap12, p_isTaker12, p_isGone, zu1, zu2, zu3, nIe, Nat.reduceSub, e232, q4, zgd_t (zBif _)]
      have hk2 : ∀ x u3, (if b0 = true ∧ ∀ t, t < i + 1 → (x2 : Int) ≤ (qDs (w 5 t) cell).toInt then (1 : Int32) else 0) = x → qS1 u u3 → ∃ u', k (x, nI (i + 1), u3) = some (if b0 = true ∧ ∀ t, t < T → (x2 : Int) ≤ (qDs (w 5 t) cell).toInt then 1 else 0, u') ∧ qS1 u u' := fun x u3 hx hu3 => hk (by omega) _ ⟨u3, by rw [← hx], hu3⟩
      by_cases hm : b0 = true ∧ ∀ t, t < i → (x2 : Int) ≤ (qDs (w 5 t) cell).toInt
      · rw [if_pos hm]
        obtain ⟨u3, y1, y2⟩ := g2 u2 (e232.trans hu)
        by_cases g : (qDs (w 5 i) cell).toInt < x2
        · simp (disch := (first | omega | (simp (disch := omega) only [zu1, zu2, zu3, nIi, e232, q4, u4, i10, p_apart, q2, y1]; omega))) only [if_true, if_false, zE10, zE00, zOkN, Nat.reduceAdd, Nat.reduceMul, zcl_s, zif01, zbn_e, nIi, nI_clamp, nI_add, nI_1, pk_mul, zgi, zlt, zle, Int32.zero_add, Int32.add_zero, C0, C1, G0, G1, Nat.zero_add, Nat.add_zero, l2, l3, l4, l5, l6, l7, l8, l10, l11, l12, l20, l30, l48, l50, l60, l100, l120, l140, l152, l164, l176, l188, l200, l212, l224, l1604, l1880, l2000, l2008, l2016, l2024, l2032, l2040, l2048, l2210, l2240, l2270, l2300, l2330, l2390, l2450, l2510, l2570, l2590, l2620, l2650, l2660, l2700, T0, T1, Tm1, Tm99, Tm999, p_within, p_in, p_isCell, p_isOwner, p_isDay11, p_isDay12, p_isTap11, p_isTaker11, if_pos, if_neg, p_isTap12, p_isTaker12, p_isGone, zu1, zu2, zu3, nIe, Nat.reduceSub, e232, q4, u4, i10, p_apart, q2, y1]
          exact hk2 _ u3 (if_neg (fun q => by have := q.2 i (by omega); omega)) (hu2.tr y2)
        · simp (disch := (first | omega | (simp (disch := omega) only [zu1, zu2, zu3, nIi, e232, q4, u4, i10, p_apart, q2, y1]; omega))) only [if_true, if_false, zE10, zE00, zOkN, Nat.reduceAdd, Nat.reduceMul, zcl_s, zif01, zbn_e, nIi, nI_clamp, nI_add, nI_1, pk_mul, zgi, zlt, zle, Int32.zero_add, Int32.add_zero, C0, C1, G0, G1, Nat.zero_add, Nat.add_zero, l2, l3, l4, l5, l6, l7, l8, l10, l11, l12, l20, l30, l48, l50, l60, l100, l120, l140, l152, l164, l176, l188, l200, l212, l224, l1604, l1880, l2000, l2008, l2016, l2024, l2032, l2040, l2048, l2210, l2240, l2270, l2300, l2330, l2390, l2450, l2510, l2570, l2590, l2620, l2650, l2660, l2700, T0, T1, Tm1, Tm99, Tm999, p_within, p_in, p_isCell, p_isOwner, p_isDay11, p_isDay12, p_isTap11, p_isTaker11, if_pos, if_neg, p_isTap12, p_isTaker12, p_isGone, zu1, zu2, zu3, nIe, Nat.reduceSub, e232, q4, u4, i10, p_apart, q2, y1]
          refine hk2 _ u3 (if_pos ⟨hm.1, fun t ht => ?_⟩) (hu2.tr y2)
          by_cases et : t = i
          · subst et; omega
          · exact hm.2 t (by omega)
      · rw [if_neg hm]
        simp (disch := (first | omega | (simp (disch := omega) only [zu1, zu2, zu3, nIi, e232, q4]; omega))) only [if_true, if_false, zE10, zE00, zOkN, Nat.reduceAdd, Nat.reduceMul, zcl_s, zif01, zbn_e, nIi, nI_clamp, nI_add, nI_1, pk_mul, zgi, zlt, zle, Int32.zero_add, Int32.add_zero, C0, C1, G0, G1, Nat.zero_add, Nat.add_zero, l2, l3, l4, l5, l6, l7, l8, l10, l11, l12, l20, l30, l48, l50, l60, l100, l120, l140, l152, l164, l176, l188, l200, l212, l224, l1604, l1880, l2000, l2008, l2016, l2024, l2032, l2040, l2048, l2210, l2240, l2270, l2300, l2330, l2390, l2450, l2510, l2570, l2590, l2620, l2650, l2660, l2700, T0, T1, Tm1, Tm99, Tm999, p_within, p_in, p_isCell, p_isOwner, p_isDay11, p_isDay12, p_isTap11, p_isTaker11, if_pos, if_neg, p_isTap12, p_isTaker12, p_isGone, zu1, zu2, zu3, nIe, Nat.reduceSub, e232, q4]
        exact hk2 _ u2 (if_neg (fun q => hm ⟨q.1, fun t ht => q.2 t (by omega)⟩)) hu2
    have ha : ∀ (s0 : Nat) (u1 : zWd), s0 ≤ 1998 → qS1 u u1 → ∃ u', mX12_mayBe_28 231 cell (nI s0) depth u1 = some (if depth.toInt ≤ s0 ∧ ∀ t, t < T → (x2 : Int) ≤ (qDs (w 5 t) cell).toInt then 1 else 0, u') ∧ qS1 u u' := by
      intro s0 u1 hs0 hu1
      unfold mX12_mayBe_28 mX12_mayBe_36
      by_cases c : depth.toInt ≤ s0
      · obtain ⟨u', y1, y2⟩ := hl true u1 hu1
        refine ⟨u', ?_, y2⟩
        simp only [if_true, true_and] at y1
        simp only [c, true_and]
        simp (disch := (first | omega | (simp (disch := omega) only [zu1, zu2, zu3, nIi, y1]; omega))) only [if_true, if_false, zE10, zE00, zOkN, Nat.reduceAdd, Nat.reduceMul, zcl_s, zif01, zbn_e, nIi, nI_clamp, nI_add, nI_1, pk_mul, zgi, zlt, zle, Int32.zero_add, Int32.add_zero, C0, C1, G0, G1, Nat.zero_add, Nat.add_zero, l2, l3, l4, l5, l6, l7, l8, l10, l11, l12, l20, l30, l48, l50, l60, l100, l120, l140, l152, l164, l176, l188, l200, l212, l224, l1604, l1880, l2000, l2008, l2016, l2024, l2032, l2040, l2048, l2210, l2240, l2270, l2300, l2330, l2390, l2450, l2510, l2570, l2590, l2620, l2650, l2660, l2700, T0, T1, Tm1, Tm99, Tm999, p_within, p_in, p_isCell, p_isOwner, p_isDay11, p_isDay12, p_isTap11, p_isTaker11, if_pos, if_neg, p_isTap12, p_isTaker12, p_isGone, zu1, zu2, zu3, nIe, Nat.reduceSub, y1]
      · obtain ⟨u', y1, y2⟩ := hl false u1 hu1
        refine ⟨u', ?_, y2⟩
        simp only [Bool.false_eq_true, if_false, false_and] at y1
        simp only [c, false_and, if_false]
        simp (disch := (first | omega | (simp (disch := omega) only [zu1, zu2, zu3, nIi, y1]; omega))) only [if_true, if_false, zE10, zE00, zOkN, Nat.reduceAdd, Nat.reduceMul, zcl_s, zif01, zbn_e, nIi, nI_clamp, nI_add, nI_1, pk_mul, zgi, zlt, zle, Int32.zero_add, Int32.add_zero, C0, C1, G0, G1, Nat.zero_add, Nat.add_zero, l2, l3, l4, l5, l6, l7, l8, l10, l11, l12, l20, l30, l48, l50, l60, l100, l120, l140, l152, l164, l176, l188, l200, l212, l224, l1604, l1880, l2000, l2008, l2016, l2024, l2032, l2040, l2048, l2210, l2240, l2270, l2300, l2330, l2390, l2450, l2510, l2570, l2590, l2620, l2650, l2660, l2700, T0, T1, Tm1, Tm99, Tm999, p_within, p_in, p_isCell, p_isOwner, p_isDay11, p_isDay12, p_isTap11, p_isTaker11, if_pos, if_neg, p_isTap12, p_isTaker12, p_isGone, zu1, zu2, zu3, nIe, Nat.reduceSub, y1]
    obtain ⟨u1, y1, y2⟩ := g1 u hu
    have y1 : mX12_rule 231 1 (nI D) u = some (nI x1, u1) := y1
    unfold mX12_mayBe
    simp only [G0 (show 0 < 21948 by decide), C0, Nat.reduceAdd, q2]
    rw [y1, zcl_s]
    by_cases c : kd = 2
    · have : dm = 2 * x1 := if_pos c
      rw [if_pos c, show (2 : Int32) * nI x1 = nI (2 * x1) from pk_mul 2 x1, this]
      exact ha _ u1 (by omega) y2
    · have : dm = x1 := if_neg c
      rw [if_neg c, this]
      exact ha _ u1 (by omega) y2
theorem qc_eq (c : Nat → Nat → Int32) (o j : Nat) (v : Int32) : qupc c o j v o j = v := by unfold qupc; rw [if_pos rfl, qu_eq]
theorem upd_id (s : Nat → Int32) (k : Nat) : upd s k (s k) = s := by funext i; unfold upd; by_cases e : i = k <;> simp [e]
/-- a number that the model holds already is put on the class's side -/
theorem qTb_c2 {c : Nat → Nat → Int32} {s : Nat → Int32} (h : qTb c s) (b : Nat) {o p m n : Nat} (hb : qBk[b]? = some (o, p, m, n)) {i j : Nat} (hi : i < n) (hj : j = p + i) {v : Int32} (hv : v = s (m + i)) : qTb (qupc c o j v) s := by
  have := qTb_put h b hb hi hj rfl v
  rw [hv, upd_id] at this
  rw [hv]; exact this
/-- a new tap -/
theorem r_tap {c : Nat → Nat → Int32} {s p : Nat → Int32} (h : qRk c s p) {T D : Nat} (hT : T < 12) (e1 : s 1 = nI T) (e0 : s 0 = nI D) (hD : D ≤ 400) {kd cl : Nat} (hk : kd ≤ 2) (hc : cl ≤ 29) (nn dd : Int32) (hn : kd ≠ 0 → 1 ≤ nn.toInt ∧ nn.toInt ≤ 500) :
    qRk (qupc (qupc (qupc (qupc (qupc (qupc (qupc c 3 T (nI kd)) 4 T (nI cl)) 5 T nn) 6 T (nI D)) 7 T 0) 8 T 0) 1 1 (nI (T + 1))) (upd (upd (upd (upd (upd (upd (upd s (140 + T) (nI kd)) (152 + T) (nI cl)) (164 + T) nn) (176 + T) dd) (188 + T) 0) (200 + T) (nI D)) 1 (nI (T + 1))) p := by
  obtain ⟨h1, h2, h3, h4, h5, h6, h7⟩ := h
  have e1i : (s 1).toInt = T := by rw [e1, nIi (by omega)]
  have hT3 := (h3 T hT).2 (by rw [e1i]; omega)
  have h10 := (qRg_at h2 2 rfl (i := 0) (by decide)).2
  simp only [Nat.add_zero] at h10
  refine ⟨?_, ?_, ?_, ?_, ?_, ?_, ?_⟩
  · have t1 := qTb_c (qTb_c (qTb_c h1 (o := 3) (lo := 0) (hi := 12) (j := T) (by decide) (by omega) (by omega) (nI kd)) (o := 4) (lo := 0) (hi := 12) (j := T) (by decide) (by omega) (by omega) (nI cl)) (o := 5) (lo := 0) (hi := 12) (j := T) (by decide) (by omega) (by omega) nn
    have t2 := qTb_s (qTb_s (qTb_s (qTb_s (qTb_s t1 (lo := 140) (hi := 200) (j := 140 + T) (by decide) (by omega) (by omega) (nI kd)) (lo := 140) (hi := 200) (j := 152 + T) (by decide) (by omega) (by omega) (nI cl)) (lo := 140) (hi := 200) (j := 164 + T) (by decide) (by omega) (by omega) nn) (lo := 140) (hi := 200) (j := 176 + T) (by decide) (by omega) (by omega) dd) (lo := 140) (hi := 200) (j := 188 + T) (by decide) (by omega) (by omega) 0
    have t3 := qTb_put t2 9 rfl (i := T) (j := T) (k := 200 + T) (by omega) (by omega) rfl (nI D)
    have t4 := qTb_c2 t3 10 rfl (i := T) (j := T) (v := 0) (by omega) (by omega) (by simp (disch := omega) only [qu_ne]; exact hT3.2.1.symm)
    have t5 := qTb_c2 t4 11 rfl (i := T) (j := T) (v := 0) (by omega) (by omega) (by simp (disch := omega) only [qu_ne]; exact hT3.2.2.symm)
    exact qTb_put t5 1 rfl (i := 0) (j := 1) (k := 1) (by omega) rfl rfl (nI (T + 1))
  · have t1 := qRg_put h2 (lo := 140) (hi := 152) (j := 140 + T) (a := 0) (b := 2) (by decide) (by omega) (by omega) (v := nI kd) (by rw [nIi (by omega)]; omega)
    have t2 := qRg_put t1 (lo := 152) (hi := 164) (j := 152 + T) (a := 0) (b := 29) (by decide) (by omega) (by omega) (v := nI cl) (by rw [nIi (by omega)]; omega)
    have t3 := qRg_s (qRg_s (qRg_s t2 (lo := 164) (hi := 200) (j := 164 + T) (by decide) (by omega) (by omega) nn) (lo := 164) (hi := 200) (j := 176 + T) (by decide) (by omega) (by omega) dd) (lo := 164) (hi := 200) (j := 188 + T) (by decide) (by omega) (by omega) 0
    have t4 := qRg_put t3 (lo := 200) (hi := 212) (j := 200 + T) (a := 0) (b := 400) (by decide) (by omega) (by omega) (v := nI D) (by rw [nIi (by omega)]; omega)
    exact qRg_put t4 (lo := 1) (hi := 2) (j := 1) (a := 0) (b := 12) (by decide) (by omega) (by omega) (v := nI (T + 1)) (by rw [nIi (by omega)]; omega)
  · intro t ht
    obtain ⟨g1, g2⟩ := h3 t ht
    rw [qu_eq, nIi (by omega)]
    by_cases et : t = T
    · subst et
      simp (disch := omega) only [qu_ne, qu_eq, qc_ne2, qc_eq]
      refine ⟨fun _ => ⟨trivial, trivial, trivial, hT3.1.symm, fun q => ?_⟩, fun q => by omega⟩
      refine hn (fun z => q ?_)
      rw [z]; rfl
    · simp (disch := omega) only [qu_ne, qc_ne2]
      exact ⟨fun q => g1 (by rw [e1i]; omega), fun q => g2 (by rw [e1i]; omega)⟩
  · refine ⟨?_, fun t ht => ?_⟩
    · simp (disch := omega) only [qc_ne2]; exact h4.1
    · simp (disch := omega) only [qu_ne, qc_ne2, qu_eq]
      rcases h4.2 t ht with ⟨g1, g2, g3, g4, g5⟩ | g
      · exact Or.inl ⟨g1, g2, g3, g4, by rw [nIi (by omega)]; omega⟩
      · exact Or.inr g
  · refine ⟨?_, fun t ht => ?_⟩
    · simp (disch := omega) only [qc_ne2]; exact h5.1
    · simp (disch := omega) only [qu_ne, qc_ne2]; exact h5.2 t ht
  · intro t d q ht hq
    simp (disch := omega) only [qu_ne, qu_eq]
    rw [nIi (by omega)]
    intro k1 k2 k3
    by_cases et : t = T
    · subst et
      rw [qu_eq, nIi (by omega)] at k2
      rw [e0, nIi (by omega)] at k3
      omega
    · rw [qu_ne _ _ (by omega)] at k2
      simp (disch := omega) only [qu_ne] at k2
      exact h6 t d q ht hq (by omega) k2 k3
  · have k1 := (((((h7.s_ h10 (j := 140 + T) (v := nI kd) (by omega)).s_ (by simp (disch := omega) only [qu_ne]; exact h10) (j := 152 + T) (v := nI cl) (by omega)).s_ (by simp (disch := omega) only [qu_ne]; exact h10) (j := 164 + T) (v := nn) (by omega)).s_ (by simp (disch := omega) only [qu_ne]; exact h10) (j := 176 + T) (v := dd) (by omega)).s_ (by simp (disch := omega) only [qu_ne]; exact h10) (j := 188 + T) (v := 0) (by omega))
    have k2 := (k1.s_ (by simp (disch := omega) only [qu_ne]; exact h10) (j := 200 + T) (v := nI D) (by omega)).s_ (by simp (disch := omega) only [qu_ne]; exact h10) (j := 1) (v := nI (T + 1)) (by omega)
    exact ((((((k2.c_ (by simp (disch := omega) only [qu_ne]; exact h10) (o := 3) (j := T) (v := nI kd) (by omega)).c_ (by simp (disch := omega) only [qu_ne]; exact h10) (o := 4) (j := T) (v := nI cl) (by omega)).c_ (by simp (disch := omega) only [qu_ne]; exact h10) (o := 5) (j := T) (v := nn) (by omega)).c_ (by simp (disch := omega) only [qu_ne]; exact h10) (o := 6) (j := T) (v := nI D) (by omega)).c_ (by simp (disch := omega) only [qu_ne]; exact h10) (o := 7) (j := T) (v := 0) (by omega)).c_ (by simp (disch := omega) only [qu_ne]; exact h10) (o := 8) (j := T) (v := 0) (by omega)).c_ (by simp (disch := omega) only [qu_ne]; exact h10) (o := 1) (j := 1) (v := nI (T + 1)) (by omega)
