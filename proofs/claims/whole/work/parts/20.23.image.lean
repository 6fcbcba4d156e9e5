theorem qsm_a : qBk.all (fun q => qLw.contains (q.1, q.2.1, q.2.2.2) && decide (q.2.2.1 + q.2.2.2 ≤ 21948)) = true := by decide +kernel
theorem qsm_b : qRb.all (fun q => decide (q.1 + q.2.1 ≤ 21948)) = true := by decide +kernel
theorem qsm_c : qLw.contains (3, 0, 12) = true ∧ qLw.contains (4, 0, 12) = true ∧ qLw.contains (5, 0, 12) = true ∧ qLw.contains (1, 2, 1) = true ∧ qLw.contains (93, 5, 1) = true ∧ qLw.contains (93, 7, 1) = true ∧ qLw.contains (98, 0, 12) = true := by decide +kernel
/-- what agrees with two that stand side by side stands side by side -/
theorem qRl_same {c c' : Nat → Nat → Int32} {s s' p : Nat → Int32} {S : Nat} (hS : S ≤ 10) (e : s 2 = nI S) (h : qRl c s p) (hs : ∀ i, i < 21948 → s' i = s i) (hc : ∀ o i, qDl qLw (qDo S) o i → c' o i = c o i) : qRl c' s' p := by
  obtain ⟨hT, hG, hTp, hD, hC, hP, hL, hO⟩ := h
  have hm : ∀ o q n, qLw.contains (o, q, n) = true → ∀ i, i < n → c' o (q + i) = c o (q + i) := fun o q n hq i hi => hc o (q + i) (Or.inl ⟨(o, q, n), by simpa using hq, rfl, by simp only; omega, by simp only; omega⟩)
  have h400 := (qRg_at hG 0 rfl (i := 0) (by decide)).2
  obtain ⟨k3, k4, k5, k1, k935, k937, k98⟩ := qsm_c
  have m3 := hm _ _ _ k3
  have m4 := hm _ _ _ k4
  have m5 := hm _ _ _ k5
  have m1 := hm _ _ _ k1 0 (by omega)
  have m935 := hm _ _ _ k935 0 (by omega)
  have m937 := hm _ _ _ k937 0 (by omega)
  have m98 := hm _ _ _ k98
  simp only [Nat.zero_add, Nat.add_zero] at m3 m4 m5 m1 m935 m937 m98
  refine ⟨?_, ?_, ?_, ?_, ?_, ?_, ?_, ?_⟩
  · intro q hq i hi
    have := List.all_eq_true.mp qsm_a q hq
    simp only [Bool.and_eq_true, decide_eq_true_eq] at this
    rw [hs _ (by omega), hm _ _ _ this.1 i hi]
    exact hT q hq i hi
  · intro q hq i hi
    have := List.all_eq_true.mp qsm_b q hq
    simp only [decide_eq_true_eq] at this
    rw [hs _ (by omega)]
    exact hG q hq i hi
  · intro t ht
    rw [hs 1 (by omega), hs (140 + t) (by omega), hs (152 + t) (by omega), hs (164 + t) (by omega), hs (188 + t) (by omega), hs (212 + t) (by omega), hs (224 + t) (by omega), m3 t ht, m4 t ht, m5 t ht, m1]
    exact hTp t ht
  · refine ⟨by rw [m935]; exact hD.1, fun t ht => ?_⟩
    rw [hs 1 (by omega), hs (2570 + t) (by omega), m935, m98 t ht]
    exact hD.2 t ht
  · refine ⟨by rw [m937]; exact hC.1, fun t ht => ?_⟩
    rw [hs (2590 + t) (by omega), m937]
    exact hC.2 t ht
  · intro t d q ht hq
    rw [hs 1 (by omega), hs (200 + t) (by omega), hs 0 (by omega)]
    intro g1 g2 g3
    simp only [Nat.add_zero] at h400
    rw [hs (2700 + 1604 * t + 4 * d + q) (by omega), hs (2700 + 1604 * t + 4 * d + 2) (by omega)]
    exact hP t d q ht hq g1 g2 g3
  · intro k hk
    rw [hs 3 (by omega), hs (2016 + k) (by omega)]
    exact hL k hk
  · intro a ha
    rw [hs 2 (by omega), e, nIi (by omega)] at ha
    have ha10 : a < 10 := by omega
    obtain ⟨g1, g2, g3, g4, n, hn, g5, g6, g7⟩ := hO a (by rw [e, nIi (by omega)]; exact ha)
    have mo : ∀ o q n, (o, q, n) ∈ qL2 (15 + 6 * a) → ∀ i, i < n → c' o (q + i) = c o (q + i) := fun o q n hq i hi => hc o (q + i) (Or.inr ⟨a, by omega, (o, q, n), hq, rfl, by simp only; omega, by simp only; omega⟩)
    have n0 := mo (15 + 6 * a) 0 1 (by simp [qL2]) 0 (by omega)
    have n1 := mo (15 + 6 * a) 1 1 (by simp [qL2]) 0 (by omega)
    have n2 := mo (15 + 6 * a + 1) 0 8 (by simp [qL2])
    have n3 := mo (15 + 6 * a + 2) 0 8 (by simp [qL2])
    have n4 := mo (15 + 6 * a + 3) 0 8 (by simp [qL2])
    have n5 := mo (15 + 6 * a + 4) 0 8 (by simp [qL2])
    have n6 := mo (15 + 6 * a + 5) 0 120 (by simp [qL2])
    simp only [Nat.zero_add, Nat.add_zero] at n0 n1 n2 n3 n4 n5 n6
    unfold qOr1
    rw [hs (240 + a) (by omega), hs (1600 + a) (by omega), hs (252 + a) (by omega), n0, n1]
    refine ⟨g1, g2, g3, g4, n, hn, g5, fun i hi => ?_, fun k hk => ?_⟩
    · rw [hs (264 + 120 * a + i) (by omega)]; exact g6 i hi
    · have hk9 : k < 8 := by omega
      obtain ⟨f1, f2, f3, f4, f5⟩ := g7 k hk
      rw [hs (1612 + 8 * a + k) (by omega), hs (1700 + 8 * a + k) (by omega), hs (1790 + 8 * a + k) (by omega), n2 k hk9, n3 k hk9, n4 k hk9, n5 k hk9]
      refine ⟨f1, f2, f3, f4, fun f6 => ?_⟩
      obtain ⟨p0, p', b, l, j1, j2, j3, j4, j5, j6, j7⟩ := f5 f6
      refine ⟨p0, p', b, l, j1, j2, ?_, j4, j5, j6, fun i hi => by rw [n6 (b + i) (by omega)]; exact j7 i hi⟩
      rw [← j3]
      refine qE_congr (fun q => ?_) p0
      unfold qB
      by_cases hq : q < n
      · simp only [if_pos hq]; exact hs _ (by omega)
      · rw [if_neg hq, if_neg hq]
/-- the model's copy, place by place -/
def mCp (w : zWd) (a b : Nat) : Nat → zWd
  | 0 => w
  | i + 1 => zup (mCp w a b i) b i (mCp w a b i a i)
theorem mCp_o {w : zWd} {a b : Nat} : ∀ i k, k ≠ b → mCp w a b i k = w k
  | 0, _, _ => rfl
  | i + 1, k, hk => by unfold mCp; rw [zpE _ _ _ hk, mCp_o i k hk]
theorem mCp_i {w : zWd} {a b : Nat} (hab : a ≠ b) : ∀ i k, k < i → mCp w a b i b k = w a k
  | 0, _, hk => by omega
  | i + 1, k, hk => by
    unfold mCp
    by_cases e : k = i
    · subst e; rw [zu3, mCp_o k a hab]
    · rw [zu2 _ _ e, mCp_i hab i k (by omega)]
theorem l21948 : (21948 : Int32) = nI 21948 := rfl
theorem s_image (w : zWd) : mX12_image 231 w = some (mCp w 232 233 21948 232 0, zup (mCp w 232 233 21948) 231 3 1) := by
  unfold mX12_image mX12_image_2
  refine zlp_to (P := fun i q => q = (nI i, mCp w 232 233 i)) (n := 21948) (by unfold zFU; omega) ?_ rfl
  rintro i hi q rfl k hk
  simp only [mX12_image_2b]
  by_cases h : i = 21948
  · subst h
    simp (disch := (first | omega | (simp (disch := omega) only [zu1, zu2, zu3, nIi, l21948, zgd_t zB1]; omega))) only [if_true, if_false, zE10, zE00, zOkN, Nat.reduceAdd, Nat.reduceMul, zcl_s, zif01, zbn_e, nIi, nI_clamp, nI_add, nI_1, pk_mul, zgi, zlt, zle, Int32.zero_add, Int32.add_zero, C0, C1, G0, G1, Nat.zero_add, Nat.add_zero, l2, l3, l4, l5, l6, l7, l8, l10, l11, l12, l20, l30, l48, l50, l60, l100, l120, l140, l152, l164, l176, l188, l200, l212, l224, l1604, l1880, l2000, l2008, l2016, l2024, l2032, l2040, l2048, l2210, l2240, l2270, l2300, l2330, l2390, l2450, l2510, l2570, l2590, l2620, l2650, l2660, l2700, T0, T1, Tm1, Tm99, Tm999, p_within, p_in, p_isCell, p_isOwner, p_isDay11, p_isDay12, p_isTap11, p_isTaker11, if_pos, if_neg, p_isTap12, p_isTaker12, p_isGone, zu1, zu2, zu3, nIe, Nat.reduceSub, l21948, zgd_t zB1]
  · simp (disch := (first | omega | (simp (disch := omega) only [zu1, zu2, zu3, nIi, l21948]; omega))) only [if_true, if_false, zE10, zE00, zOkN, Nat.reduceAdd, Nat.reduceMul, zcl_s, zif01, zbn_e, nIi, nI_clamp, nI_add, nI_1, pk_mul, zgi, zlt, zle, Int32.zero_add, Int32.add_zero, C0, C1, G0, G1, Nat.zero_add, Nat.add_zero, l2, l3, l4, l5, l6, l7, l8, l10, l11, l12, l20, l30, l48, l50, l60, l100, l120, l140, l152, l164, l176, l188, l200, l212, l224, l1604, l1880, l2000, l2008, l2016, l2024, l2032, l2040, l2048, l2210, l2240, l2270, l2300, l2330, l2390, l2450, l2510, l2570, l2590, l2620, l2650, l2660, l2700, T0, T1, Tm1, Tm99, Tm999, p_within, p_in, p_isCell, p_isOwner, p_isDay11, p_isDay12, p_isTap11, p_isTaker11, if_pos, if_neg, p_isTap12, p_isTaker12, p_isGone, zu1, zu2, zu3, nIe, Nat.reduceSub, l21948]
    exact hk (by omega) _ rfl
theorem s_undo (w : zWd) (h3 : w 231 3 = 1) : mX12_undo 231 w = some (mCp w 233 232 21948 232 0, mCp w 233 232 21948) := by
  unfold mX12_undo mX12_undo_12
  rw [h3, if_neg (by decide)]
  refine zlp_to (P := fun i q => q = (nI i, mCp w 233 232 i)) (n := 21948) (by unfold zFU; omega) ?_ rfl
  rintro i hi q rfl k hk
  simp only [mX12_undo_12b]
  by_cases h : i = 21948
  · subst h
    simp (disch := (first | omega | (simp (disch := omega) only [zu1, zu2, zu3, nIi, l21948]; omega))) only [if_true, if_false, zE10, zE00, zOkN, Nat.reduceAdd, Nat.reduceMul, zcl_s, zif01, zbn_e, nIi, nI_clamp, nI_add, nI_1, pk_mul, zgi, zlt, zle, Int32.zero_add, Int32.add_zero, C0, C1, G0, G1, Nat.zero_add, Nat.add_zero, l2, l3, l4, l5, l6, l7, l8, l10, l11, l12, l20, l30, l48, l50, l60, l100, l120, l140, l152, l164, l176, l188, l200, l212, l224, l1604, l1880, l2000, l2008, l2016, l2024, l2032, l2040, l2048, l2210, l2240, l2270, l2300, l2330, l2390, l2450, l2510, l2570, l2590, l2620, l2650, l2660, l2700, T0, T1, Tm1, Tm99, Tm999, p_within, p_in, p_isCell, p_isOwner, p_isDay11, p_isDay12, p_isTap11, p_isTaker11, if_pos, if_neg, p_isTap12, p_isTaker12, p_isGone, zu1, zu2, zu3, nIe, Nat.reduceSub, l21948]
  · simp (disch := (first | omega | (simp (disch := omega) only [zu1, zu2, zu3, nIi, l21948]; omega))) only [if_true, if_false, zE10, zE00, zOkN, Nat.reduceAdd, Nat.reduceMul, zcl_s, zif01, zbn_e, nIi, nI_clamp, nI_add, nI_1, pk_mul, zgi, zlt, zle, Int32.zero_add, Int32.add_zero, C0, C1, G0, G1, Nat.zero_add, Nat.add_zero, l2, l3, l4, l5, l6, l7, l8, l10, l11, l12, l20, l30, l48, l50, l60, l100, l120, l140, l152, l164, l176, l188, l200, l212, l224, l1604, l1880, l2000, l2008, l2016, l2024, l2032, l2040, l2048, l2210, l2240, l2270, l2300, l2330, l2390, l2450, l2510, l2570, l2590, l2620, l2650, l2660, l2700, T0, T1, Tm1, Tm99, Tm999, p_within, p_in, p_isCell, p_isOwner, p_isDay11, p_isDay12, p_isTap11, p_isTaker11, if_pos, if_neg, p_isTap12, p_isTaker12, p_isGone, zu1, zu2, zu3, nIe, Nat.reduceSub, l21948]
    exact hk (by omega) _ rfl
theorem u_image {n : Nat} {w : zWd} (h : qInv n w) : qBoth n w (mX11_image 0) (mX12_image 231) := by
  obtain ⟨D, hD, d1, d2⟩ := q_today h
  obtain ⟨S, hS, o1, o2⟩ := q_orders h
  obtain ⟨w2, f, hA, hc⟩ := cp10 (d := 103) (s := 1) w (Or.inl (by omega)) hS o1
  have e1 : w2 1 = w 1 := hA 1 (by omega)
  refine ⟨nI D, zup w2 0 2 1, zup (mCp (zup w2 0 2 1) 232 233 21948) 231 3 1, ?_, ?_, ?_⟩
  · unfold mX11_image
    simp (disch := (first | omega | (simp (disch := omega) only [zu1, zu2, zu3, nIi]; omega))) only [if_true, if_false, zE10, zE00, zOkN, Nat.reduceAdd, Nat.reduceMul, zcl_s, zif01, zbn_e, nIi, nI_clamp, nI_add, nI_1, pk_mul, zgi, zlt, zle, Int32.zero_add, Int32.add_zero, C0, C1, G0, G1, Nat.zero_add, Nat.add_zero, l2, l3, l4, l5, l6, l7, l8, l10, l11, l12, l20, l30, l48, l50, l60, l100, l120, l140, l152, l164, l176, l188, l200, l212, l224, l1604, l1880, l2000, l2008, l2016, l2024, l2032, l2040, l2048, l2210, l2240, l2270, l2300, l2330, l2390, l2450, l2510, l2570, l2590, l2620, l2650, l2660, l2700, T0, T1, Tm1, Tm99, Tm999, p_within, p_in, p_isCell, p_isOwner, p_isDay11, p_isDay12, p_isTap11, p_isTaker11, if_pos, if_neg, p_isTap12, p_isTaker12, p_isGone, zu1, zu2, zu3, nIe, Nat.reduceSub]
    rw [f, zcl_s, zgd_t zB1, e1, d1]
  · rw [s_image, mCp_o _ 232 (by decide), zpE _ _ _ (show 232 ≠ 0 by decide), hA 232 (by omega), d2]
  · have k0 : ∀ a, a ≠ 231 → a ≠ 233 → a ≠ 0 → (a < 103 ∨ 205 ≤ a) → zup (mCp (zup w2 0 2 1) 232 233 21948) 231 3 1 a = w a := fun a h1 h2 h3 h4 => by
      rw [zpE _ _ _ h1, mCp_o _ _ h2, zpE _ _ _ h3, hA a (by omega)]
    have kv : qVw (zup (mCp (zup w2 0 2 1) 232 233 21948) 231 3 1) 1 = qVw w 1 := by
      funext o
      unfold qVw
      by_cases ho : o < 102
      · rw [if_pos ho, if_pos ho, k0 (1 + o) (by omega) (by omega) (by omega) (by omega)]
      · rw [if_neg ho, if_neg ho]
    have k2 : zup (mCp (zup w2 0 2 1) 232 233 21948) 231 3 1 0 2 = 1 := by
      rw [zpE _ _ _ (by decide), mCp_o _ _ (by decide), zu3]
    have hR1 : qRl (qVw (zup (mCp (zup w2 0 2 1) 232 233 21948) 231 3 1) 103) (zup (mCp (zup w2 0 2 1) 232 233 21948) 231 3 1 233) (w 205) := by
      refine qRl_same hS o2 h.1 (fun i hi => ?_) (fun o i hoi => ?_)
      · rw [zpE _ _ _ (by decide), mCp_i (by decide) _ _ hi, zpE _ _ _ (by decide), hA 232 (by omega)]
      · have := hc o i hoi
        unfold qVw
        by_cases ho : o < 102
        · rw [if_pos ho, if_pos ho, zpE _ _ _ (by omega), mCp_o _ _ (by omega), zpE _ _ _ (by omega)]
          exact this
        · rw [if_neg ho, if_neg ho]
    refine ⟨by rw [kv, k0 232 (by decide) (by decide) (by decide) (by decide), k0 205 (by decide) (by decide) (by decide) (by decide)]; exact h.1, by rw [k2, zu3], by rw [k2]; exact zB1, fun _ => ⟨by rw [k0 205 (by decide) (by decide) (by decide) (by decide)]; exact hR1, ?_⟩, h.2.2.2.2.mono (Nat.le_succ n) (k0 220 (by decide) (by decide) (by decide) (by decide)) (k0 225 (by decide) (by decide) (by decide) (by decide))⟩
    rw [k0 232 (by decide) (by decide) (by decide) (by decide), zpE _ _ _ (by decide), mCp_i (by decide) _ _ (by decide), zpE _ _ _ (by decide), hA 232 (by omega)]
    exact Int.le_refl _
theorem u_undo {n : Nat} {w : zWd} (h : qInv n w) : qBoth n w (mX11_undo 0) (mX12_undo 231) := by
  rcases h.2.2.1 with h0 | h1
  · have h3 : w 231 3 = 0 := by rw [← h.2.1]; exact h0
    exact qBoth_id h (-3) (by unfold mX11_undo; rw [if_pos h0]) (by unfold mX12_undo; rw [if_pos h3])
  have h3 : w 231 3 = 1 := by rw [← h.2.1]; exact h1
  obtain ⟨hR, hle⟩ := h.2.2.2.1 h1
  obtain ⟨S, s1, _, s3, _⟩ := qNat (qRg_at hR.2.1 2 rfl (i := 0) (by decide)) (Int.le_refl 0)
  have hS : S ≤ 10 := by omega
  have o1 : w 116 0 = nI S := by
    have := qTb_at hR.1 2 rfl (i := 0) (by decide)
    rw [qVw_at w (by decide)] at this
    exact this.trans s1
  obtain ⟨w2, f, hA, hc⟩ := cp10 (d := 1) (s := 103) w (Or.inr (by omega)) hS o1
  have e1 : w2 1 0 = w 103 0 := hc 0 0 (Or.inl ⟨(0, 0, 1), by decide, rfl, by decide, by decide⟩)
  have e2 : w 103 0 = w 233 0 := by
    have := qTb_at hR.1 0 rfl (i := 0) (by decide)
    rwa [qVw_at w (by decide)] at this
  refine ⟨w 103 0, w2, mCp w2 233 232 21948, ?_, ?_, ?_⟩
  · unfold mX11_undo
    rw [h1, if_neg (by decide)]
    simp (disch := (first | omega | (simp (disch := omega) only [zu1, zu2, zu3, nIi]; omega))) only [if_true, if_false, zE10, zE00, zOkN, Nat.reduceAdd, Nat.reduceMul, zcl_s, zif01, zbn_e, nIi, nI_clamp, nI_add, nI_1, pk_mul, zgi, zlt, zle, Int32.zero_add, Int32.add_zero, C0, C1, G0, G1, Nat.zero_add, Nat.add_zero, l2, l3, l4, l5, l6, l7, l8, l10, l11, l12, l20, l30, l48, l50, l60, l100, l120, l140, l152, l164, l176, l188, l200, l212, l224, l1604, l1880, l2000, l2008, l2016, l2024, l2032, l2040, l2048, l2210, l2240, l2270, l2300, l2330, l2390, l2450, l2510, l2570, l2590, l2620, l2650, l2660, l2700, T0, T1, Tm1, Tm99, Tm999, p_within, p_in, p_isCell, p_isOwner, p_isDay11, p_isDay12, p_isTap11, p_isTaker11, if_pos, if_neg, p_isTap12, p_isTaker12, p_isGone, zu1, zu2, zu3, nIe, Nat.reduceSub]
    rw [f, zcl_s, e1]
  · rw [s_undo _ (by rw [hA 231 (by omega)]; exact h3), mCp_i (by decide) _ 0 (by decide), hA 233 (by omega), e2]
  · have k0 : ∀ a, a ≠ 232 → (a < 1 ∨ 103 ≤ a) → mCp w2 233 232 21948 a = w a := fun a h1 h2 => by
      rw [mCp_o _ _ h1, hA a (by omega)]
    have ki : ∀ i, i < 21948 → mCp w2 233 232 21948 232 i = w 233 i := fun i hi => by rw [mCp_i (by decide) _ _ hi, hA 233 (by omega)]
    have kv : qVw (mCp w2 233 232 21948) 103 = qVw w 103 := by
      funext o
      unfold qVw
      by_cases ho : o < 102
      · rw [if_pos ho, if_pos ho, k0 (103 + o) (by omega) (by omega)]
      · rw [if_neg ho, if_neg ho]
    have hR1 : qRl (qVw (mCp w2 233 232 21948) 1) (mCp w2 233 232 21948 232) (w 205) := by
      refine qRl_same hS s1 hR ki (fun o i hoi => ?_)
      have := hc o i hoi
      unfold qVw
      by_cases ho : o < 102
      · rw [if_pos ho, if_pos ho, mCp_o _ _ (by omega)]
        exact this
      · rw [if_neg ho, if_neg ho]
    refine ⟨by rw [k0 205 (by decide) (by decide)]; exact hR1, by rw [k0 0 (by decide) (by decide), k0 231 (by decide) (by decide)]; exact h.2.1, by rw [k0 0 (by decide) (by decide)]; exact h.2.2.1, fun _ => ⟨by rw [kv, k0 233 (by decide) (by decide), k0 205 (by decide) (by decide)]; exact hR, ?_⟩, h.2.2.2.2.mono (Nat.le_succ n) (k0 220 (by decide) (by decide)) (k0 225 (by decide) (by decide))⟩
    rw [k0 233 (by decide) (by decide), ki 0 (by decide)]
    exact Int.le_refl _
