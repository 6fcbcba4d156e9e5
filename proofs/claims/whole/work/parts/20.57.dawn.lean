theorem yF_2 (v h S l : Int32) : 0 ≤ (yF v h S l 2).toInt := by
  show 0 ≤ (yM0 (v - S / nI 10)).toInt
  unfold yM0
  by_cases c : 0 < (v - S / nI 10).toInt
  · rw [if_pos c]; omega
  · rw [if_neg c, T0]; omega
theorem ySs_hi {kd tn sh : Nat → Int32} {cl : Nat → Nat} {T : Nat} {C S : Nat → Int32} {t : Nat} (ht : T ≤ t) : ∀ i, ySs kd tn sh cl T C S i t = S t
  | 0 => rfl
  | i + 1 => by
    show (if t < T then _ else ySs kd tn sh cl T C S i t) = _
    rw [if_neg (by omega)]
    exact ySs_hi ht i
theorem y_ez (m : Nat) : nI m * 12 * 4 = nI (48 * m) := by
  rw [show (12 : Int32) = nI 12 from rfl, show (4 : Int32) = nI 4 from rfl, pk_mul, pk_mul]
  congr 1; omega
set_option maxHeartbeats 8000000 in
theorem s_dawn11 {w : zWd} {D T N : Nat} {cl : Nat → Nat} (hT : T ≤ 12) (hN : 1 ≤ N ∧ N ≤ 30) (hs : D + N ≤ 400) (d1 : w 1 0 = nI D) (e1 : w 2 1 = nI T) (hP : yTp (w 4) (w 6) cl T) (hR : yRg (w 3)) (k1 : ∀ t, t < T → w 5 t = nI (cl t)) : ∃ w1, mX11_dawn 0 (nI N) w = some (nI (D + N), w1) ∧ (∀ a, a ≠ 1 → a ≠ 3 → a ≠ 9 → a ≠ 10 → a ≠ 11 → a ≠ 205 → w1 a = w a) ∧ w1 1 0 = nI (D + N) ∧ (∀ j, j ≠ 0 → w1 1 j = w 1 j) ∧ w1 3 = ySc (w 4) (w 6) (qBit (w 2 2)) cl T (w 3) N ∧ w1 9 = ySs (w 4) (w 6) (qBit (w 2 2)) cl T (w 3) (w 9) N ∧ (∀ r, r < 48 * D → w1 205 r = w 205 r) ∧ ∀ m t q, m < N → t < T → q < 4 → w1 205 (48 * (D + m) + (4 * t + q)) = ySf (w 4) (w 6) (qBit (w 2 2)) cl T (w 3) (w 9) (w 8) m t q := by
  have f0 : mX11_dawn 0 (nI N) w = mX11_dawn_31 0 (nI N) 0 w := by
    unfold mX11_dawn
    simp (disch := (first | omega | (simp (disch := omega) only [zu1, zu2, zu3, nIi, d1, T400]; omega))) only [if_true, if_false, zE10, zE00, zOkN, Nat.reduceAdd, Nat.reduceMul, zcl_s, zif01, zbn_e, nIi, nI_clamp, nI_add, nI_1, pk_mul, zgi, zlt, zle, Int32.zero_add, Int32.add_zero, C0, C1, G0, G1, Nat.zero_add, Nat.add_zero, l2, l3, l4, l5, l6, l7, l8, l10, l11, l12, l20, l30, l48, l50, l60, l100, l120, l140, l152, l164, l176, l188, l200, l212, l224, l1604, l1880, l2000, l2008, l2016, l2024, l2032, l2040, l2048, l2210, l2240, l2270, l2300, l2330, l2390, l2450, l2510, l2570, l2590, l2620, l2650, l2660, l2700, T0, T1, Tm1, Tm99, Tm999, p_within, p_in, p_isCell, p_isOwner, p_isDay11, p_isDay12, p_isTap11, p_isTaker11, if_pos, if_neg, p_isTap12, p_isTaker12, p_isGone, zu1, zu2, zu3, nIe, Nat.reduceSub, d1, T400]
  rw [f0]
  unfold mX11_dawn_31
  refine zlp_R (R := fun (Y : Option (Int32 × zWd)) => ∃ w1, Y = some (nI (D + N), w1) ∧ (∀ a, a ≠ 1 → a ≠ 3 → a ≠ 9 → a ≠ 10 → a ≠ 11 → a ≠ 205 → w1 a = w a) ∧ w1 1 0 = nI (D + N) ∧ (∀ j, j ≠ 0 → w1 1 j = w 1 j) ∧ w1 3 = ySc (w 4) (w 6) (qBit (w 2 2)) cl T (w 3) N ∧ w1 9 = ySs (w 4) (w 6) (qBit (w 2 2)) cl T (w 3) (w 9) N ∧ (∀ r, r < 48 * D → w1 205 r = w 205 r) ∧ ∀ m t q, m < N → t < T → q < 4 → w1 205 (48 * (D + m) + (4 * t + q)) = ySf (w 4) (w 6) (qBit (w 2 2)) cl T (w 3) (w 9) (w 8) m t q)
    (P := fun (i : Nat) (q : Int32 × zWd) => ∃ u, q = (nI i, u) ∧ (∀ a, a ≠ 1 → a ≠ 3 → a ≠ 9 → a ≠ 10 → a ≠ 11 → a ≠ 205 → u a = w a) ∧ u 1 0 = nI (D + i) ∧ (∀ j, j ≠ 0 → u 1 j = w 1 j) ∧ u 3 = ySc (w 4) (w 6) (qBit (w 2 2)) cl T (w 3) i ∧ u 9 = ySs (w 4) (w 6) (qBit (w 2 2)) cl T (w 3) (w 9) i ∧ (∀ r, r < 48 * D → u 205 r = w 205 r) ∧ ∀ m t q, m < i → t < T → q < 4 → u 205 (48 * (D + m) + (4 * t + q)) = ySf (w 4) (w 6) (qBit (w 2 2)) cl T (w 3) (w 9) (w 8) m t q) (n := N) (by unfold zFU; omega) ?_ ⟨w, rfl, fun _ _ _ _ _ _ _ => rfl, d1, fun _ _ => rfl, rfl, rfl, fun _ _ => rfl, fun m t q hm => absurd hm (by omega)⟩
  rintro i hi q ⟨u, rfl, g1, g2, g3, g4, g5, g6, g7⟩ k hkk
  simp only [mX11_dawn_31b]
  by_cases e : i = N
  · subst e
    refine ⟨u, ?_, g1, g2, g3, g4, g5, g6, g7⟩
    simp (disch := (first | omega | (simp (disch := omega) only [zu1, zu2, zu3, nIi, g2]; omega))) only [if_true, if_false, zE10, zE00, zOkN, Nat.reduceAdd, Nat.reduceMul, zcl_s, zif01, zbn_e, nIi, nI_clamp, nI_add, nI_1, pk_mul, zgi, zlt, zle, Int32.zero_add, Int32.add_zero, C0, C1, G0, G1, Nat.zero_add, Nat.add_zero, l2, l3, l4, l5, l6, l7, l8, l10, l11, l12, l20, l30, l48, l50, l60, l100, l120, l140, l152, l164, l176, l188, l200, l212, l224, l1604, l1880, l2000, l2008, l2016, l2024, l2032, l2040, l2048, l2210, l2240, l2270, l2300, l2330, l2390, l2450, l2510, l2570, l2590, l2620, l2650, l2660, l2700, T0, T1, Tm1, Tm99, Tm999, p_within, p_in, p_isCell, p_isOwner, p_isDay11, p_isDay12, p_isTap11, p_isTaker11, if_pos, if_neg, p_isTap12, p_isTaker12, p_isGone, zu1, zu2, zu3, nIe, Nat.reduceSub, g2]
  have hi2 : i < N := by omega
  obtain ⟨u2, m1, m2, m3, m4, m5⟩ := s_days11 (v0 := 2) (w := w) (kd := w 4) (tn := w 6) (sh := qBit (w 2 2)) (cl := cl) hT hP hR e1 (fun t ht => rfl) k1 (fun t ht => rfl) (fun t ht => rfl) (u := u) (i := i) (fun a h1 h2 h3 => g1 a (by omega) (by omega) (by omega) (by omega) (by omega) (by omega)) g4 g5
  simp only [Nat.reduceAdd] at m1 m2 m3 m4 m5
  have u21 : u2 1 0 = nI (D + i) := by rw [m2 1 (by decide) (by decide) (by decide) (by decide)]; exact g2
  have ez := y_ez (D + i)
  have hz : zcok (0 : Int32) (nI (48 * (D + i))) (48 : Int32) 48 19200 := by
    refine ⟨by decide, ?_, by decide, by decide, ?_⟩
    · rw [zlt, nIi (by omega), T0]; omega
    · rw [nI_clamp (by omega), show (48 : Int32).toNatClampNeg = 48 by decide]; omega
  rw [if_neg (show ¬ nI N ≤ nI i from nI_ge hi2 (by omega))]
  simp only [Nat.reduceAdd]
  rw [m1, zcl_s, u21, ez, zgd_t hz, zbn_e, zbn_e, ← nI_succ, nI_clamp (show 48 * (D + i) < 2 ^ 31 by omega), show (48 : Int32).toNatClampNeg = 48 by decide, C0, zcp_ne _ _ _ _ _ _ 1 (by decide), u21]
  have e1' : nI (D + i) + 1 = nI (D + (i + 1)) := (nI_succ (D + i)).symm
  rw [e1']
  have p205 : ∀ r, zup (zcp u2 10 0 205 (48 * (D + i)) 48) 1 0 (nI (D + (i + 1))) 205 r = if 48 * (D + i) ≤ r ∧ r < 48 * (D + i) + 48 then u2 10 (0 + (r - 48 * (D + i))) else u2 205 r := fun r => by
    rw [zpE _ _ _ (by decide), zcp_self]; rfl
  refine hkk hi2 _ ⟨_, rfl, fun a h1 h2 h3 h4 h5 h6 => ?_, ?_, fun j hj => ?_, ?_, ?_, fun r hr => ?_, fun m t q hm ht hq => ?_⟩
  · rw [zpE _ _ _ h1, zcp_ne _ _ _ _ _ _ _ h6, m2 a h2 h3 h4 h5]; exact g1 a h1 h2 h3 h4 h5 h6
  · rw [zu3]
  · rw [zu2 _ _ hj, zcp_ne _ _ _ _ _ _ _ (by decide), m2 1 (by decide) (by decide) (by decide) (by decide)]; exact g3 j hj
  · rw [zpE _ _ _ (by decide), zcp_ne _ _ _ _ _ _ _ (by decide)]; exact m3
  · rw [zpE _ _ _ (by decide), zcp_ne _ _ _ _ _ _ _ (by decide)]; exact m4
  · rw [p205, if_neg (by omega), m2 205 (by decide) (by decide) (by decide) (by decide)]; exact g6 r hr
  · rw [p205]
    by_cases c : m = i
    · rw [c, if_pos (by omega), show 0 + (48 * (D + i) + (4 * t + q) - 48 * (D + i)) = 4 * t + q by omega]
      exact m5 t q ht hq
    · rw [if_neg (by omega), m2 205 (by decide) (by decide) (by decide) (by decide)]; exact g7 m t q (by omega) ht hq
set_option maxHeartbeats 8000000 in
theorem s_dawn12 {w w1 : zWd} {D T N : Nat} {cl : Nat → Nat} (hT : T ≤ 12) (hN : 1 ≤ N ∧ N ≤ 30) (hs : D + N ≤ 400) (d2 : w 232 0 = nI D) (e2 : w 232 1 = nI T) (hP : yTp (w 4) (w 6) cl T) (hR : yRg (w 3)) (k1 : ∀ t, t < T → w 5 t = nI (cl t)) (hsh : ∀ t, t < T → qBit (w 2 2) t = 0 ∨ qBit (w 2 2) t = 1) (h3 : ∀ j, j < 120 → w 232 (20 + j) = w 3 j) (hk : ∀ t, t < T → w 232 (140 + t) = w 4 t ∧ w 232 (152 + t) = w 5 t ∧ w 232 (164 + t) = w 6 t ∧ w 232 (188 + t) = qBit (w 2 2) t) (h8 : ∀ t, t < 12 → w 232 (212 + t) = w 8 t ∧ w 232 (224 + t) = w 9 t) (w232 : w1 232 = w 232) : ∃ w2, mX12_dawn 231 (nI N) w1 = some (nI (D + N), w2) ∧ (∀ a, a ≠ 232 → a < 234 ∨ 239 < a → w2 a = w1 a) ∧ w2 232 0 = nI (D + N) ∧ (∀ j, 1 ≤ j → j < 20 ∨ 140 ≤ j → j < 224 ∨ 224 + T ≤ j → j < 2700 → w2 232 j = w 232 j) ∧ (∀ j, j < 120 → w2 232 (20 + j) = ySc (w 4) (w 6) (qBit (w 2 2)) cl T (w 3) N j) ∧ (∀ t, t < T → w2 232 (224 + t) = ySs (w 4) (w 6) (qBit (w 2 2)) cl T (w 3) (w 9) N t) ∧ (∀ t d q, t < 12 → d < D → q < 4 → w2 232 (2700 + 1604 * t + 4 * d + q) = w 232 (2700 + 1604 * t + 4 * d + q)) ∧ ∀ m t q, m < N → t < T → q < 4 → w2 232 (2700 + 1604 * t + 4 * (D + m) + q) = ySf (w 4) (w 6) (qBit (w 2 2)) cl T (w 3) (w 9) (w 8) m t q := by
  have f0 : mX12_dawn 231 (nI N) w1 = mX12_dawn_29 231 (nI N) 0 w1 := by
    unfold mX12_dawn
    simp (disch := (first | omega | (simp (disch := omega) only [zu1, zu2, zu3, nIi, w232, d2, T400]; omega))) only [if_true, if_false, zE10, zE00, zOkN, Nat.reduceAdd, Nat.reduceMul, zcl_s, zif01, zbn_e, nIi, nI_clamp, nI_add, nI_1, pk_mul, zgi, zlt, zle, Int32.zero_add, Int32.add_zero, C0, C1, G0, G1, Nat.zero_add, Nat.add_zero, l2, l3, l4, l5, l6, l7, l8, l10, l11, l12, l20, l30, l48, l50, l60, l100, l120, l140, l152, l164, l176, l188, l200, l212, l224, l1604, l1880, l2000, l2008, l2016, l2024, l2032, l2040, l2048, l2210, l2240, l2270, l2300, l2330, l2390, l2450, l2510, l2570, l2590, l2620, l2650, l2660, l2700, T0, T1, Tm1, Tm99, Tm999, p_within, p_in, p_isCell, p_isOwner, p_isDay11, p_isDay12, p_isTap11, p_isTaker11, if_pos, if_neg, p_isTap12, p_isTaker12, p_isGone, zu1, zu2, zu3, nIe, Nat.reduceSub, w232, d2, T400]
  rw [f0]
  unfold mX12_dawn_29
  refine zlp_R (R := fun (Y : Option (Int32 × zWd)) => ∃ w2, Y = some (nI (D + N), w2) ∧ (∀ a, a ≠ 232 → a < 234 ∨ 239 < a → w2 a = w1 a) ∧ w2 232 0 = nI (D + N) ∧ (∀ j, 1 ≤ j → j < 20 ∨ 140 ≤ j → j < 224 ∨ 224 + T ≤ j → j < 2700 → w2 232 j = w 232 j) ∧ (∀ j, j < 120 → w2 232 (20 + j) = ySc (w 4) (w 6) (qBit (w 2 2)) cl T (w 3) N j) ∧ (∀ t, t < T → w2 232 (224 + t) = ySs (w 4) (w 6) (qBit (w 2 2)) cl T (w 3) (w 9) N t) ∧ (∀ t d q, t < 12 → d < D → q < 4 → w2 232 (2700 + 1604 * t + 4 * d + q) = w 232 (2700 + 1604 * t + 4 * d + q)) ∧ ∀ m t q, m < N → t < T → q < 4 → w2 232 (2700 + 1604 * t + 4 * (D + m) + q) = ySf (w 4) (w 6) (qBit (w 2 2)) cl T (w 3) (w 9) (w 8) m t q)
    (P := fun (i : Nat) (q : Int32 × zWd) => ∃ u, q = (nI i, u) ∧ (∀ a, a ≠ 232 → a < 234 ∨ 239 < a → u a = w1 a) ∧ u 232 0 = nI (D + i) ∧ (∀ j, 1 ≤ j → j < 20 ∨ 140 ≤ j → j < 224 ∨ 224 + T ≤ j → j < 2700 → u 232 j = w 232 j) ∧ (∀ j, j < 120 → u 232 (20 + j) = ySc (w 4) (w 6) (qBit (w 2 2)) cl T (w 3) i j) ∧ (∀ t, t < T → u 232 (224 + t) = ySs (w 4) (w 6) (qBit (w 2 2)) cl T (w 3) (w 9) i t) ∧ (∀ t d q, t < 12 → d < D → q < 4 → u 232 (2700 + 1604 * t + 4 * d + q) = w 232 (2700 + 1604 * t + 4 * d + q)) ∧ ∀ m t q, m < i → t < T → q < 4 → u 232 (2700 + 1604 * t + 4 * (D + m) + q) = ySf (w 4) (w 6) (qBit (w 2 2)) cl T (w 3) (w 9) (w 8) m t q) (n := N) (by unfold zFU; omega) ?_ ⟨w1, rfl, fun _ _ _ => rfl, by rw [w232]; exact d2, fun j _ _ _ _ => by rw [w232], fun j hj => by rw [w232]; exact h3 j hj, fun t ht => by rw [w232]; exact (h8 t (by omega)).2, fun t d q _ _ _ => by rw [w232], fun m t q hm => absurd hm (by omega)⟩
  rintro i hi q ⟨u, rfl, g1, g2, g3, g4, g5, g6, g7⟩ k hkk
  simp only [mX12_dawn_29b]
  by_cases e : i = N
  · subst e
    refine ⟨u, ?_, g1, g2, g3, g4, g5, g6, g7⟩
    simp (disch := (first | omega | (simp (disch := omega) only [zu1, zu2, zu3, nIi, g2]; omega))) only [if_true, if_false, zE10, zE00, zOkN, Nat.reduceAdd, Nat.reduceMul, zcl_s, zif01, zbn_e, nIi, nI_clamp, nI_add, nI_1, pk_mul, zgi, zlt, zle, Int32.zero_add, Int32.add_zero, C0, C1, G0, G1, Nat.zero_add, Nat.add_zero, l2, l3, l4, l5, l6, l7, l8, l10, l11, l12, l20, l30, l48, l50, l60, l100, l120, l140, l152, l164, l176, l188, l200, l212, l224, l1604, l1880, l2000, l2008, l2016, l2024, l2032, l2040, l2048, l2210, l2240, l2270, l2300, l2330, l2390, l2450, l2510, l2570, l2590, l2620, l2650, l2660, l2700, T0, T1, Tm1, Tm99, Tm999, p_within, p_in, p_isCell, p_isOwner, p_isDay11, p_isDay12, p_isTap11, p_isTaker11, if_pos, if_neg, p_isTap12, p_isTaker12, p_isGone, zu1, zu2, zu3, nIe, Nat.reduceSub, g2]
  have hi2 : i < N := by omega
  obtain ⟨u2, m1, m2, m3, m4, m5, m6, m7, m8⟩ := s_goes (w := w) (C := w 3) (S := w 9) (ln := w 8) (kd := w 4) (tn := w 6) (sh := qBit (w 2 2)) (cl := cl) hT hP hR e2 (fun t ht => (hk t ht).1) (fun t ht => by rw [(hk t ht).2.1]; exact k1 t ht) (fun t ht => (hk t ht).2.2.1) (fun t ht => (hk t ht).2.2.2) (fun t ht => (h8 t (by omega)).1) hsh (u := u) (i := i) (E := D + i) (by omega) g2 (fun j h1 h2 h3 => g3 j (by omega) h1 (by omega) (by omega)) g4 g5
  rw [if_neg (show ¬ nI N ≤ nI i from nI_ge hi2 (by omega)), m1, zcl_s, ← nI_succ]
  refine hkk hi2 _ ⟨u2, rfl, fun a h1 h2 => by rw [m2 a h1 h2]; exact g1 a h1 h2, m3, fun j h0 h1 h2 h3 => by rw [m4 j h0 h1 h2 h3]; exact g3 j h0 h1 h2 h3, m5, m6, fun t d q ht hd hq => by rw [m7 t d q ht (by omega) hq]; exact g6 t d q ht hd hq, fun m t q hm ht hq => ?_⟩
  by_cases c : m = i
  · rw [c]; exact m8 t q ht hq
  · rw [m7 t (D + m) q (by omega) (by omega) hq]; exact g7 m t q (by omega) ht hq
set_option maxHeartbeats 8000000 in
theorem u_dawn {n : Nat} {w : zWd} (h : qInv n w) (a : Int32) : qBoth n w (mX11_dawn 0 a) (mX12_dawn 231 a) := by
  obtain ⟨D, hD, d1, d2⟩ := q_today h
  obtain ⟨T, hT, e1, e2⟩ := q_taps h
  by_cases ha : 1 ≤ a.toInt ∧ a.toInt ≤ 30
  rotate_left
  · refine qBoth_id h (-2) ?_ (by unfold mX12_dawn mX12_dawn_24; simp (disch := (first | omega | (simp (disch := omega) only [zu1, zu2, zu3, nIi]; omega))) only [if_true, if_false, zE10, zE00, zOkN, Nat.reduceAdd, Nat.reduceMul, zcl_s, zif01, zbn_e, nIi, nI_clamp, nI_add, nI_1, pk_mul, zgi, zlt, zle, Int32.zero_add, Int32.add_zero, C0, C1, G0, G1, Nat.zero_add, Nat.add_zero, l2, l3, l4, l5, l6, l7, l8, l10, l11, l12, l20, l30, l48, l50, l60, l100, l120, l140, l152, l164, l176, l188, l200, l212, l224, l1604, l1880, l2000, l2008, l2016, l2024, l2032, l2040, l2048, l2210, l2240, l2270, l2300, l2330, l2390, l2450, l2510, l2570, l2590, l2620, l2650, l2660, l2700, T0, T1, Tm1, Tm99, Tm999, p_within, p_in, p_isCell, p_isOwner, p_isDay11, p_isDay12, p_isTap11, p_isTaker11, if_pos, if_neg, p_isTap12, p_isTaker12, p_isGone, zu1, zu2, zu3, nIe, Nat.reduceSub])
    unfold mX11_dawn mX11_dawn_26
    by_cases c : a.toInt < 1
    · simp (disch := (first | omega | (simp (disch := omega) only [zu1, zu2, zu3, nIi]; omega))) only [if_true, if_false, zE10, zE00, zOkN, Nat.reduceAdd, Nat.reduceMul, zcl_s, zif01, zbn_e, nIi, nI_clamp, nI_add, nI_1, pk_mul, zgi, zlt, zle, Int32.zero_add, Int32.add_zero, C0, C1, G0, G1, Nat.zero_add, Nat.add_zero, l2, l3, l4, l5, l6, l7, l8, l10, l11, l12, l20, l30, l48, l50, l60, l100, l120, l140, l152, l164, l176, l188, l200, l212, l224, l1604, l1880, l2000, l2008, l2016, l2024, l2032, l2040, l2048, l2210, l2240, l2270, l2300, l2330, l2390, l2450, l2510, l2570, l2590, l2620, l2650, l2660, l2700, T0, T1, Tm1, Tm99, Tm999, p_within, p_in, p_isCell, p_isOwner, p_isDay11, p_isDay12, p_isTap11, p_isTaker11, if_pos, if_neg, p_isTap12, p_isTaker12, p_isGone, zu1, zu2, zu3, nIe, Nat.reduceSub]
    · simp (disch := (first | omega | (simp (disch := omega) only [zu1, zu2, zu3, nIi]; omega))) only [if_true, if_false, zE10, zE00, zOkN, Nat.reduceAdd, Nat.reduceMul, zcl_s, zif01, zbn_e, nIi, nI_clamp, nI_add, nI_1, pk_mul, zgi, zlt, zle, Int32.zero_add, Int32.add_zero, C0, C1, G0, G1, Nat.zero_add, Nat.add_zero, l2, l3, l4, l5, l6, l7, l8, l10, l11, l12, l20, l30, l48, l50, l60, l100, l120, l140, l152, l164, l176, l188, l200, l212, l224, l1604, l1880, l2000, l2008, l2016, l2024, l2032, l2040, l2048, l2210, l2240, l2270, l2300, l2330, l2390, l2450, l2510, l2570, l2590, l2620, l2650, l2660, l2700, T0, T1, Tm1, Tm99, Tm999, p_within, p_in, p_isCell, p_isOwner, p_isDay11, p_isDay12, p_isTap11, p_isTaker11, if_pos, if_neg, p_isTap12, p_isTaker12, p_isGone, zu1, zu2, zu3, nIe, Nat.reduceSub]
  obtain ⟨N, rfl, hN, hN3, _⟩ := qNat (x := a) (lo := 0) (hi := 30) (by omega) (Int.le_refl 0)
  rw [nIi (by omega)] at ha
  have ha : 1 ≤ N ∧ N ≤ 30 := by omega
  by_cases hs : D + N ≤ 400
  rotate_left
  · exact qBoth_id h (-2) (by unfold mX11_dawn mX11_dawn_26; simp (disch := (first | omega | (simp (disch := omega) only [zu1, zu2, zu3, nIi, d1, T400]; omega))) only [if_true, if_false, zE10, zE00, zOkN, Nat.reduceAdd, Nat.reduceMul, zcl_s, zif01, zbn_e, nIi, nI_clamp, nI_add, nI_1, pk_mul, zgi, zlt, zle, Int32.zero_add, Int32.add_zero, C0, C1, G0, G1, Nat.zero_add, Nat.add_zero, l2, l3, l4, l5, l6, l7, l8, l10, l11, l12, l20, l30, l48, l50, l60, l100, l120, l140, l152, l164, l176, l188, l200, l212, l224, l1604, l1880, l2000, l2008, l2016, l2024, l2032, l2040, l2048, l2210, l2240, l2270, l2300, l2330, l2390, l2450, l2510, l2570, l2590, l2620, l2650, l2660, l2700, T0, T1, Tm1, Tm99, Tm999, p_within, p_in, p_isCell, p_isOwner, p_isDay11, p_isDay12, p_isTap11, p_isTaker11, if_pos, if_neg, p_isTap12, p_isTaker12, p_isGone, zu1, zu2, zu3, nIe, Nat.reduceSub, d1, T400]) (by unfold mX12_dawn mX12_dawn_24; simp (disch := (first | omega | (simp (disch := omega) only [zu1, zu2, zu3, nIi, d2, T400]; omega))) only [if_true, if_false, zE10, zE00, zOkN, Nat.reduceAdd, Nat.reduceMul, zcl_s, zif01, zbn_e, nIi, nI_clamp, nI_add, nI_1, pk_mul, zgi, zlt, zle, Int32.zero_add, Int32.add_zero, C0, C1, G0, G1, Nat.zero_add, Nat.add_zero, l2, l3, l4, l5, l6, l7, l8, l10, l11, l12, l20, l30, l48, l50, l60, l100, l120, l140, l152, l164, l176, l188, l200, l212, l224, l1604, l1880, l2000, l2008, l2016, l2024, l2032, l2040, l2048, l2210, l2240, l2270, l2300, l2330, l2390, l2450, l2510, l2570, l2590, l2620, l2650, l2660, l2700, T0, T1, Tm1, Tm99, Tm999, p_within, p_in, p_isCell, p_isOwner, p_isDay11, p_isDay12, p_isTap11, p_isTaker11, if_pos, if_neg, p_isTap12, p_isTaker12, p_isGone, zu1, zu2, zu3, nIe, Nat.reduceSub, d2, T400])
  obtain ⟨cl, hP, hR, k1, hsh, h3, hk, h8⟩ := q_gr h hT e2
  -- the class
  obtain ⟨w1, c1, c2, c3, c4, c5, c6, c7, c8⟩ := s_dawn11 hT ha hs d1 e1 hP hR k1
  have w232 : w1 232 = w 232 := c2 232 (by decide) (by decide) (by decide) (by decide) (by decide) (by decide)
  -- the model
  obtain ⟨w2, b1, b2, b3, b4, b5, b6, b7, b8⟩ := s_dawn12 hT ha hs d2 e2 hP hR k1 hsh h3 hk h8 w232
  refine ⟨nI (D + N), w1, w2, c1, b1, ?_⟩
  have lo : ∀ a, a ≠ 1 → a ≠ 3 → a ≠ 9 → a ≠ 10 → a ≠ 11 → a ≠ 205 → a ≠ 232 → (a < 234 ∨ 239 < a) → w2 a = w a := fun a h1 h3 h9 h10 h11 h205 h232 h => by rw [b2 a h232 h]; exact c2 a h1 h3 h9 h10 h11 h205
  have l231 := lo 231 (by decide) (by decide) (by decide) (by decide) (by decide) (by decide) (by decide) (by decide)
  have l0 := lo 0 (by decide) (by decide) (by decide) (by decide) (by decide) (by decide) (by decide) (by decide)
  have l233 := lo 233 (by decide) (by decide) (by decide) (by decide) (by decide) (by decide) (by decide) (by decide)
  have l220 := lo 220 (by decide) (by decide) (by decide) (by decide) (by decide) (by decide) (by decide) (by decide)
  have l225 := lo 225 (by decide) (by decide) (by decide) (by decide) (by decide) (by decide) (by decide) (by decide)
  have w2o : ∀ a, a ≠ 232 → a < 234 ∨ 239 < a → w2 a = w1 a := b2
  have d2i : (w 232 0).toInt = D := by rw [d2, nIi (by omega)]
  have e2i : (w 232 1).toInt = T := by rw [e2, nIi (by omega)]
  have h12 : (w 232 1).toInt ≤ 12 := by rw [e2i]; omega
  have vC : ∀ o, o < 102 → qVw w2 1 o = w2 (1 + o) := fun o ho => qVw_at w2 ho
  have p205 : ∀ r, r < 48 * D → w2 205 r = w 205 r := fun r hr => by rw [w2o 205 (by decide) (by decide)]; exact c7 r hr
  refine ⟨?_, by rw [l0, l231]; exact h.2.1, by rw [l0]; exact h.2.2.1, fun hi1 => ?_, h.2.2.2.2.mono (Nat.le_succ n) l220 l225⟩
  · refine r_dawn (c := qVw w 1) (s := w 232) (p := w 205) (C := ySc (w 4) (w 6) (qBit (w 2 2)) cl T (w 3) N) (S := ySs (w 4) (w 6) (qBit (w 2 2)) cl T (w 3) (w 9) N) (T := T) (D := D) (E := D + N) h.1 e2i d2i hs (by omega) (yRg_S hP hR N) ?_ b3 ?_ b5 ?_ b6 ?_ ?_ (fun j q1 q2 q3 q4 => b4 j q1 q2 q3 q4) ?_ ?_
    · rw [vC 0 (by decide), w2o 1 (by decide) (by decide)]; exact c3
    · intro j hj
      rw [vC 2 (by decide), w2o 3 (by decide) (by decide), c5]
    · intro t ht
      rw [vC 8 (by decide), w2o 9 (by decide) (by decide), c6]
    · intro t ht
      rw [ySs_hi ht, qVw_at w (by decide)]
    · intro o h0 h2 h8 h9 h10
      unfold qVw
      by_cases ho : o < 102
      · rw [if_pos ho, if_pos ho]
        exact lo (1 + o) (by omega) (by omega) (by omega) (by omega) (by omega) (by omega) (by omega) (by omega)
      · rw [if_neg ho, if_neg ho]
    · intro t d q ht hq hd
      exact ⟨p205 _ (by omega), b7 t d q (by omega) hd hq⟩
    · intro t d q ht hq hd hE
      have x1 := b8 (d - D) t q (by omega) ht hq
      have x2 := b8 (d - D) t 2 (by omega) ht (by omega)
      have x3 := c8 (d - D) t q (by omega) ht hq
      rw [show D + (d - D) = d by omega] at x1 x2 x3
      rw [x1, x2, w2o 205 (by decide) (by decide), show (d * 12 + t) * 4 + q = 48 * d + (4 * t + q) by omega, x3]
      exact ⟨rfl, yF_2 _ _ _ _⟩
  · rw [l0] at hi1
    obtain ⟨j1, j2⟩ := h.2.2.2.1 hi1
    have ev : qVw w2 103 = qVw w 103 := by
      funext o
      unfold qVw
      by_cases ho : o < 102
      · rw [if_pos ho, if_pos ho]
        exact lo (103 + o) (by omega) (by omega) (by omega) (by omega) (by omega) (by omega) (by omega) (by omega)
      · rw [if_neg ho, if_neg ho]
    rw [ev, l233, b3, nIi (by omega)]
    refine ⟨⟨j1.1, j1.2.1, j1.2.2.1, j1.2.2.2.1, j1.2.2.2.2.1, j1.2.2.2.2.2.1.congr (D := D) ?_ (by omega) p205, j1.2.2.2.2.2.2.1, j1.2.2.2.2.2.2.2⟩, by omega⟩
    exact (qRg_at j1.2.1 1 rfl (i := 0) (by decide)).2
