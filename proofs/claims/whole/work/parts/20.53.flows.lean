theorem yM0_lt (x : Int32) : (if 0 ≤ x.toInt then x else 0) = yM0 x := yM0_le x
/-- the model's tap gives -/
theorem m_250 (w : zWd) {t : Nat} (ht : t < 12) (v x : Int32) : mX12_gives_250 231 (nI t) v x (nI t) 237 w = some ((), zup (zup w 237 t x) 232 (224 + t) (w 232 (224 + t) + yI v (w 235 t))) := by
  unfold mX12_gives_250 mX12_gives_299 mX12_gives_300 yI
  by_cases k1 : v.toInt ≤ 0
  · rw [if_pos k1]
    simp (disch := (first | omega | (simp (disch := omega) only [zu1, zu2, zu3, nIi]; omega))) only [if_true, if_false, zE10, zE00, zOkN, Nat.reduceAdd, Nat.reduceMul, zcl_s, zif01, zbn_e, nIi, nI_clamp, nI_add, nI_1, pk_mul, zgi, zlt, zle, Int32.zero_add, Int32.add_zero, C0, C1, G0, G1, Nat.zero_add, Nat.add_zero, l2, l3, l4, l5, l6, l7, l8, l10, l11, l12, l20, l30, l48, l50, l60, l100, l120, l140, l152, l164, l176, l188, l200, l212, l224, l1604, l1880, l2000, l2008, l2016, l2024, l2032, l2040, l2048, l2210, l2240, l2270, l2300, l2330, l2390, l2450, l2510, l2570, l2590, l2620, l2650, l2660, l2700, T0, T1, Tm1, Tm99, Tm999, p_within, p_in, p_isCell, p_isOwner, p_isDay11, p_isDay12, p_isTap11, p_isTaker11, if_pos, if_neg, p_isTap12, p_isTaker12, p_isGone, zu1, zu2, zu3, nIe, Nat.reduceSub]
  rw [if_neg k1]
  by_cases k2 : (w 235 t).toInt < 500
  · rw [if_pos k2]
    simp (disch := (first | omega | (simp (disch := omega) only [zu1, zu2, zu3, nIi, T500]; omega))) only [if_true, if_false, zE10, zE00, zOkN, Nat.reduceAdd, Nat.reduceMul, zcl_s, zif01, zbn_e, nIi, nI_clamp, nI_add, nI_1, pk_mul, zgi, zlt, zle, Int32.zero_add, Int32.add_zero, C0, C1, G0, G1, Nat.zero_add, Nat.add_zero, l2, l3, l4, l5, l6, l7, l8, l10, l11, l12, l20, l30, l48, l50, l60, l100, l120, l140, l152, l164, l176, l188, l200, l212, l224, l1604, l1880, l2000, l2008, l2016, l2024, l2032, l2040, l2048, l2210, l2240, l2270, l2300, l2330, l2390, l2450, l2510, l2570, l2590, l2620, l2650, l2660, l2700, T0, T1, Tm1, Tm99, Tm999, p_within, p_in, p_isCell, p_isOwner, p_isDay11, p_isDay12, p_isTap11, p_isTaker11, if_pos, if_neg, p_isTap12, p_isTaker12, p_isGone, zu1, zu2, zu3, nIe, Nat.reduceSub, T500]
  rw [if_neg k2]
  by_cases k3 : (w 235 t).toInt < 800
  · rw [if_pos k3]
    simp (disch := (first | omega | (simp (disch := omega) only [zu1, zu2, zu3, nIi, T500, T800]; omega))) only [if_true, if_false, zE10, zE00, zOkN, Nat.reduceAdd, Nat.reduceMul, zcl_s, zif01, zbn_e, nIi, nI_clamp, nI_add, nI_1, pk_mul, zgi, zlt, zle, Int32.zero_add, Int32.add_zero, C0, C1, G0, G1, Nat.zero_add, Nat.add_zero, l2, l3, l4, l5, l6, l7, l8, l10, l11, l12, l20, l30, l48, l50, l60, l100, l120, l140, l152, l164, l176, l188, l200, l212, l224, l1604, l1880, l2000, l2008, l2016, l2024, l2032, l2040, l2048, l2210, l2240, l2270, l2300, l2330, l2390, l2450, l2510, l2570, l2590, l2620, l2650, l2660, l2700, T0, T1, Tm1, Tm99, Tm999, p_within, p_in, p_isCell, p_isOwner, p_isDay11, p_isDay12, p_isTap11, p_isTaker11, if_pos, if_neg, p_isTap12, p_isTaker12, p_isGone, zu1, zu2, zu3, nIe, Nat.reduceSub, T500, T800]
  · rw [if_neg k3]
    simp (disch := (first | omega | (simp (disch := omega) only [zu1, zu2, zu3, nIi, T500, T800]; omega))) only [if_true, if_false, zE10, zE00, zOkN, Nat.reduceAdd, Nat.reduceMul, zcl_s, zif01, zbn_e, nIi, nI_clamp, nI_add, nI_1, pk_mul, zgi, zlt, zle, Int32.zero_add, Int32.add_zero, C0, C1, G0, G1, Nat.zero_add, Nat.add_zero, l2, l3, l4, l5, l6, l7, l8, l10, l11, l12, l20, l30, l48, l50, l60, l100, l120, l140, l152, l164, l176, l188, l200, l212, l224, l1604, l1880, l2000, l2008, l2016, l2024, l2032, l2040, l2048, l2210, l2240, l2270, l2300, l2330, l2390, l2450, l2510, l2570, l2590, l2620, l2650, l2660, l2700, T0, T1, Tm1, Tm99, Tm999, p_within, p_in, p_isCell, p_isOwner, p_isDay11, p_isDay12, p_isTap11, p_isTaker11, if_pos, if_neg, p_isTap12, p_isTaker12, p_isGone, zu1, zu2, zu3, nIe, Nat.reduceSub, T500, T800]
theorem m_205 (w : zWd) {t : Nat} (ht : t < 12) (v x : Int32) (n10 : ¬ v + nI 10 = 0) : mX12_gives_205 231 (nI t) v x (nI t) 236 w = mX12_gives_250 231 (nI t) v (yM0 (w 235 t - nI 10 * w 232 (212 + t) / (v + nI 10))) (nI t) 237 (zup w 236 t x) := by
  unfold mX12_gives_205
  rw [← yM0_lt]
  by_cases k1 : 0 ≤ (w 235 t - nI 10 * w 232 (212 + t) / (v + nI 10)).toInt
  · rw [if_pos k1]
    simp (disch := (first | omega | (simp (disch := omega) only [zu1, zu2, zu3, nIi, zgd_t n10]; omega))) only [if_true, if_false, zE10, zE00, zOkN, Nat.reduceAdd, Nat.reduceMul, zcl_s, zif01, zbn_e, nIi, nI_clamp, nI_add, nI_1, pk_mul, zgi, zlt, zle, Int32.zero_add, Int32.add_zero, C0, C1, G0, G1, Nat.zero_add, Nat.add_zero, l2, l3, l4, l5, l6, l7, l8, l10, l11, l12, l20, l30, l48, l50, l60, l100, l120, l140, l152, l164, l176, l188, l200, l212, l224, l1604, l1880, l2000, l2008, l2016, l2024, l2032, l2040, l2048, l2210, l2240, l2270, l2300, l2330, l2390, l2450, l2510, l2570, l2590, l2620, l2650, l2660, l2700, T0, T1, Tm1, Tm99, Tm999, p_within, p_in, p_isCell, p_isOwner, p_isDay11, p_isDay12, p_isTap11, p_isTaker11, if_pos, if_neg, p_isTap12, p_isTaker12, p_isGone, zu1, zu2, zu3, nIe, Nat.reduceSub, zgd_t n10]
  · rw [if_neg k1]
    simp (disch := (first | omega | (simp (disch := omega) only [zu1, zu2, zu3, nIi, zgd_t n10]; omega))) only [if_true, if_false, zE10, zE00, zOkN, Nat.reduceAdd, Nat.reduceMul, zcl_s, zif01, zbn_e, nIi, nI_clamp, nI_add, nI_1, pk_mul, zgi, zlt, zle, Int32.zero_add, Int32.add_zero, C0, C1, G0, G1, Nat.zero_add, Nat.add_zero, l2, l3, l4, l5, l6, l7, l8, l10, l11, l12, l20, l30, l48, l50, l60, l100, l120, l140, l152, l164, l176, l188, l200, l212, l224, l1604, l1880, l2000, l2008, l2016, l2024, l2032, l2040, l2048, l2210, l2240, l2270, l2300, l2330, l2390, l2450, l2510, l2570, l2590, l2620, l2650, l2660, l2700, T0, T1, Tm1, Tm99, Tm999, p_within, p_in, p_isCell, p_isOwner, p_isDay11, p_isDay12, p_isTap11, p_isTaker11, if_pos, if_neg, p_isTap12, p_isTaker12, p_isGone, zu1, zu2, zu3, nIe, Nat.reduceSub, zgd_t n10]
theorem m_169 (w : zWd) {t : Nat} (ht : t < 12) (v s0 s1 : Int32) : mX12_gives_169 231 (nI t) v s0 s1 (nI t) 235 w = mX12_gives_205 231 (nI t) v (yM0 (v - w 232 (224 + t) / nI 10)) (nI t) 236 (zup w 235 t (s1 + s0)) := by
  unfold mX12_gives_169
  rw [← yM0_lt]
  by_cases k1 : 0 ≤ (v - w 232 (224 + t) / nI 10).toInt
  · rw [if_pos k1]
    simp (disch := (first | omega | (simp (disch := omega) only [zu1, zu2, zu3, nIi]; omega))) only [if_true, if_false, zE10, zE00, zOkN, Nat.reduceAdd, Nat.reduceMul, zcl_s, zif01, zbn_e, nIi, nI_clamp, nI_add, nI_1, pk_mul, zgi, zlt, zle, Int32.zero_add, Int32.add_zero, C0, C1, G0, G1, Nat.zero_add, Nat.add_zero, l2, l3, l4, l5, l6, l7, l8, l10, l11, l12, l20, l30, l48, l50, l60, l100, l120, l140, l152, l164, l176, l188, l200, l212, l224, l1604, l1880, l2000, l2008, l2016, l2024, l2032, l2040, l2048, l2210, l2240, l2270, l2300, l2330, l2390, l2450, l2510, l2570, l2590, l2620, l2650, l2660, l2700, T0, T1, Tm1, Tm99, Tm999, p_within, p_in, p_isCell, p_isOwner, p_isDay11, p_isDay12, p_isTap11, p_isTaker11, if_pos, if_neg, p_isTap12, p_isTaker12, p_isGone, zu1, zu2, zu3, nIe, Nat.reduceSub]
  · rw [if_neg k1]
    simp (disch := (first | omega | (simp (disch := omega) only [zu1, zu2, zu3, nIi]; omega))) only [if_true, if_false, zE10, zE00, zOkN, Nat.reduceAdd, Nat.reduceMul, zcl_s, zif01, zbn_e, nIi, nI_clamp, nI_add, nI_1, pk_mul, zgi, zlt, zle, Int32.zero_add, Int32.add_zero, C0, C1, G0, G1, Nat.zero_add, Nat.add_zero, l2, l3, l4, l5, l6, l7, l8, l10, l11, l12, l20, l30, l48, l50, l60, l100, l120, l140, l152, l164, l176, l188, l200, l212, l224, l1604, l1880, l2000, l2008, l2016, l2024, l2032, l2040, l2048, l2210, l2240, l2270, l2300, l2330, l2390, l2450, l2510, l2570, l2590, l2620, l2650, l2660, l2700, T0, T1, Tm1, Tm99, Tm999, p_within, p_in, p_isCell, p_isOwner, p_isDay11, p_isDay12, p_isTap11, p_isTaker11, if_pos, if_neg, p_isTap12, p_isTaker12, p_isGone, zu1, zu2, zu3, nIe, Nat.reduceSub]
theorem m_111 (w : zWd) {t c : Nat} (ht : t < 12) (hc : c < 30) (v : Int32) {kd : Int32} (hk : w 232 (140 + t) = kd) : mX12_gives_111 231 (nI t) (nI c) v w = mX12_gives_169 231 (nI t) v (if kd = nI 2 then nI 50 else 0) (w 232 (20 + c)) (nI t) 235 (zup (zup w 232 (50 + c) (w 232 (50 + c) - v)) 234 t v) := by
  unfold mX12_gives_111
  by_cases k1 : kd = nI 2
  · rw [if_pos k1]
    simp (disch := (first | omega | (simp (disch := omega) only [zu1, zu2, zu3, nIi, hk, k1]; omega))) only [if_true, if_false, zE10, zE00, zOkN, Nat.reduceAdd, Nat.reduceMul, zcl_s, zif01, zbn_e, nIi, nI_clamp, nI_add, nI_1, pk_mul, zgi, zlt, zle, Int32.zero_add, Int32.add_zero, C0, C1, G0, G1, Nat.zero_add, Nat.add_zero, l2, l3, l4, l5, l6, l7, l8, l10, l11, l12, l20, l30, l48, l50, l60, l100, l120, l140, l152, l164, l176, l188, l200, l212, l224, l1604, l1880, l2000, l2008, l2016, l2024, l2032, l2040, l2048, l2210, l2240, l2270, l2300, l2330, l2390, l2450, l2510, l2570, l2590, l2620, l2650, l2660, l2700, T0, T1, Tm1, Tm99, Tm999, p_within, p_in, p_isCell, p_isOwner, p_isDay11, p_isDay12, p_isTap11, p_isTaker11, if_pos, if_neg, p_isTap12, p_isTaker12, p_isGone, zu1, zu2, zu3, nIe, Nat.reduceSub, hk, k1]
  · rw [if_neg k1]
    simp (disch := (first | omega | (simp (disch := omega) only [zu1, zu2, zu3, nIi, hk, k1]; omega))) only [if_true, if_false, zE10, zE00, zOkN, Nat.reduceAdd, Nat.reduceMul, zcl_s, zif01, zbn_e, nIi, nI_clamp, nI_add, nI_1, pk_mul, zgi, zlt, zle, Int32.zero_add, Int32.add_zero, C0, C1, G0, G1, Nat.zero_add, Nat.add_zero, l2, l3, l4, l5, l6, l7, l8, l10, l11, l12, l20, l30, l48, l50, l60, l100, l120, l140, l152, l164, l176, l188, l200, l212, l224, l1604, l1880, l2000, l2008, l2016, l2024, l2032, l2040, l2048, l2210, l2240, l2270, l2300, l2330, l2390, l2450, l2510, l2570, l2590, l2620, l2650, l2660, l2700, T0, T1, Tm1, Tm99, Tm999, p_within, p_in, p_isCell, p_isOwner, p_isDay11, p_isDay12, p_isTap11, p_isTaker11, if_pos, if_neg, p_isTap12, p_isTaker12, p_isGone, zu1, zu2, zu3, nIe, Nat.reduceSub, hk, k1]
theorem s_give12 {w : zWd} {kd tn sh : Nat → Int32} {cl : Nat → Nat} {C : Nat → Int32} {t : Nat} (ht : t < 12) (hc : cl t < 30) (hC : ∀ j, j < 120 → w 232 (20 + j) = C j) (k0 : w 232 (140 + t) = kd t) (k1 : w 232 (152 + t) = nI (cl t)) (k2 : w 232 (164 + t) = tn t) (k3 : w 232 (188 + t) = sh t) (hs : sh t = 0 ∨ sh t = 1) (hv : 0 ≤ (yV kd tn sh cl C t).toInt ∧ (yV kd tn sh cl C t).toInt ≤ 9999) :
    ∃ w', mX12_gives 231 (nI t) w = some ((), w') ∧ (∀ a, a ≠ 232 → a ≠ 234 → a ≠ 235 → a ≠ 236 → a ≠ 237 → w' a = w a) ∧ (∀ j, w' 232 j = if j = 50 + cl t then C (30 + cl t) - yV kd tn sh cl C t else if j = 224 + t then w 232 (224 + t) + yI (yV kd tn sh cl C t) (yH kd cl C t) else w 232 j)
    ∧ (∀ q, q < 4 → w' (234 + q) t = yF (yV kd tn sh cl C t) (yH kd cl C t) (w 232 (224 + t)) (w 232 (212 + t)) q) ∧ ∀ q j, q < 4 → j ≠ t → w' (234 + q) j = w (234 + q) j := by
  have hw30 : w 232 (50 + cl t) = C (30 + cl t) := by rw [← hC _ (by omega)]; congr 1; omega
  have hw0 : w 232 (20 + cl t) = C (cl t) := hC _ (by omega)
  have n10 : ¬ yV kd tn sh cl C t + nI 10 = 0 := fun q => by
    have := congrArg Int32.toInt q
    rw [toInt_add_s (by omega) (by rw [nIi (by omega)]; omega), nIi (by omega), T0] at this
    omega
  have key : mX12_gives 231 (nI t) w = mX12_gives_111 231 (nI t) (nI (cl t)) (yV kd tn sh cl C t) w := by
    have k79 : ∀ d, (if kd t = 0 then C (30 + cl t) / nI 10 else if kd t = 1 then tn t else tn t + tn t / nI 2) = d → mX12_gives_79 231 (nI t) (nI (cl t)) (C (30 + cl t)) d w = mX12_gives_111 231 (nI t) (nI (cl t)) (yV kd tn sh cl C t) w := by
      intro d hd
      unfold mX12_gives_79 yV
      rw [hd]
      rcases hs with z | z
      · have i01 : ¬ (0 : Int32) = 1 := by decide
        rw [if_pos z]
        by_cases c2 : (C (30 + cl t)).toInt < d.toInt
        · rw [if_pos c2]
          simp (disch := (first | omega | (simp (disch := omega) only [zu1, zu2, zu3, nIi, k3, z, i01]; omega))) only [if_true, if_false, zE10, zE00, zOkN, Nat.reduceAdd, Nat.reduceMul, zcl_s, zif01, zbn_e, nIi, nI_clamp, nI_add, nI_1, pk_mul, zgi, zlt, zle, Int32.zero_add, Int32.add_zero, C0, C1, G0, G1, Nat.zero_add, Nat.add_zero, l2, l3, l4, l5, l6, l7, l8, l10, l11, l12, l20, l30, l48, l50, l60, l100, l120, l140, l152, l164, l176, l188, l200, l212, l224, l1604, l1880, l2000, l2008, l2016, l2024, l2032, l2040, l2048, l2210, l2240, l2270, l2300, l2330, l2390, l2450, l2510, l2570, l2590, l2620, l2650, l2660, l2700, T0, T1, Tm1, Tm99, Tm999, p_within, p_in, p_isCell, p_isOwner, p_isDay11, p_isDay12, p_isTap11, p_isTaker11, if_pos, if_neg, p_isTap12, p_isTaker12, p_isGone, zu1, zu2, zu3, nIe, Nat.reduceSub, k3, z, i01]
        · rw [if_neg c2]
          simp (disch := (first | omega | (simp (disch := omega) only [zu1, zu2, zu3, nIi, k3, z, i01]; omega))) only [if_true, if_false, zE10, zE00, zOkN, Nat.reduceAdd, Nat.reduceMul, zcl_s, zif01, zbn_e, nIi, nI_clamp, nI_add, nI_1, pk_mul, zgi, zlt, zle, Int32.zero_add, Int32.add_zero, C0, C1, G0, G1, Nat.zero_add, Nat.add_zero, l2, l3, l4, l5, l6, l7, l8, l10, l11, l12, l20, l30, l48, l50, l60, l100, l120, l140, l152, l164, l176, l188, l200, l212, l224, l1604, l1880, l2000, l2008, l2016, l2024, l2032, l2040, l2048, l2210, l2240, l2270, l2300, l2330, l2390, l2450, l2510, l2570, l2590, l2620, l2650, l2660, l2700, T0, T1, Tm1, Tm99, Tm999, p_within, p_in, p_isCell, p_isOwner, p_isDay11, p_isDay12, p_isTap11, p_isTaker11, if_pos, if_neg, p_isTap12, p_isTaker12, p_isGone, zu1, zu2, zu3, nIe, Nat.reduceSub, k3, z, i01]
      · rw [if_neg (show ¬ sh t = 0 by rw [z]; decide)]
        simp (disch := (first | omega | (simp (disch := omega) only [zu1, zu2, zu3, nIi, k3, z]; omega))) only [if_true, if_false, zE10, zE00, zOkN, Nat.reduceAdd, Nat.reduceMul, zcl_s, zif01, zbn_e, nIi, nI_clamp, nI_add, nI_1, pk_mul, zgi, zlt, zle, Int32.zero_add, Int32.add_zero, C0, C1, G0, G1, Nat.zero_add, Nat.add_zero, l2, l3, l4, l5, l6, l7, l8, l10, l11, l12, l20, l30, l48, l50, l60, l100, l120, l140, l152, l164, l176, l188, l200, l212, l224, l1604, l1880, l2000, l2008, l2016, l2024, l2032, l2040, l2048, l2210, l2240, l2270, l2300, l2330, l2390, l2450, l2510, l2570, l2590, l2620, l2650, l2660, l2700, T0, T1, Tm1, Tm99, Tm999, p_within, p_in, p_isCell, p_isOwner, p_isDay11, p_isDay12, p_isTap11, p_isTaker11, if_pos, if_neg, p_isTap12, p_isTaker12, p_isGone, zu1, zu2, zu3, nIe, Nat.reduceSub, k3, z]
    unfold mX12_gives
    by_cases c0 : kd t = 0
    · have h := k79 _ (if_pos c0)
      simp (disch := (first | omega | (simp (disch := omega) only [zu1, zu2, zu3, nIi, k0, k1, k2, c0, hw30]; omega))) only [if_true, if_false, zE10, zE00, zOkN, Nat.reduceAdd, Nat.reduceMul, zcl_s, zif01, zbn_e, nIi, nI_clamp, nI_add, nI_1, pk_mul, zgi, zlt, zle, Int32.zero_add, Int32.add_zero, C0, C1, G0, G1, Nat.zero_add, Nat.add_zero, l2, l3, l4, l5, l6, l7, l8, l10, l11, l12, l20, l30, l48, l50, l60, l100, l120, l140, l152, l164, l176, l188, l200, l212, l224, l1604, l1880, l2000, l2008, l2016, l2024, l2032, l2040, l2048, l2210, l2240, l2270, l2300, l2330, l2390, l2450, l2510, l2570, l2590, l2620, l2650, l2660, l2700, T0, T1, Tm1, Tm99, Tm999, p_within, p_in, p_isCell, p_isOwner, p_isDay11, p_isDay12, p_isTap11, p_isTaker11, if_pos, if_neg, p_isTap12, p_isTaker12, p_isGone, zu1, zu2, zu3, nIe, Nat.reduceSub, k0, k1, k2, c0, hw30]
      exact h
    by_cases c1 : kd t = 1
    · have h := k79 _ ((if_neg c0).trans (if_pos c1))
      have c10 : ¬ (1 : Int32) = 0 := by decide
      simp (disch := (first | omega | (simp (disch := omega) only [zu1, zu2, zu3, nIi, k0, k1, k2, c1, hw30]; omega))) only [if_true, if_false, zE10, zE00, zOkN, Nat.reduceAdd, Nat.reduceMul, zcl_s, zif01, zbn_e, nIi, nI_clamp, nI_add, nI_1, pk_mul, zgi, zlt, zle, Int32.zero_add, Int32.add_zero, C0, C1, G0, G1, Nat.zero_add, Nat.add_zero, l2, l3, l4, l5, l6, l7, l8, l10, l11, l12, l20, l30, l48, l50, l60, l100, l120, l140, l152, l164, l176, l188, l200, l212, l224, l1604, l1880, l2000, l2008, l2016, l2024, l2032, l2040, l2048, l2210, l2240, l2270, l2300, l2330, l2390, l2450, l2510, l2570, l2590, l2620, l2650, l2660, l2700, T0, T1, Tm1, Tm99, Tm999, p_within, p_in, p_isCell, p_isOwner, p_isDay11, p_isDay12, p_isTap11, p_isTaker11, if_pos, if_neg, p_isTap12, p_isTaker12, p_isGone, zu1, zu2, zu3, nIe, Nat.reduceSub, k0, k1, k2, c1, hw30]
      exact h
    · have h := k79 _ ((if_neg c0).trans (if_neg c1))
      simp (disch := (first | omega | (simp (disch := omega) only [zu1, zu2, zu3, nIi, k0, k1, k2, c0, c1, hw30]; omega))) only [if_true, if_false, zE10, zE00, zOkN, Nat.reduceAdd, Nat.reduceMul, zcl_s, zif01, zbn_e, nIi, nI_clamp, nI_add, nI_1, pk_mul, zgi, zlt, zle, Int32.zero_add, Int32.add_zero, C0, C1, G0, G1, Nat.zero_add, Nat.add_zero, l2, l3, l4, l5, l6, l7, l8, l10, l11, l12, l20, l30, l48, l50, l60, l100, l120, l140, l152, l164, l176, l188, l200, l212, l224, l1604, l1880, l2000, l2008, l2016, l2024, l2032, l2040, l2048, l2210, l2240, l2270, l2300, l2330, l2390, l2450, l2510, l2570, l2590, l2620, l2650, l2660, l2700, T0, T1, Tm1, Tm99, Tm999, p_within, p_in, p_isCell, p_isOwner, p_isDay11, p_isDay12, p_isTap11, p_isTaker11, if_pos, if_neg, p_isTap12, p_isTaker12, p_isGone, zu1, zu2, zu3, nIe, Nat.reduceSub, k0, k1, k2, c0, c1, hw30]
      exact h
  refine ⟨_, (key.trans (m_111 w ht hc _ k0)).trans ((m_169 _ ht _ _ _).trans ((m_205 _ ht _ _ n10).trans (m_250 _ ht _ _))), fun a h1 h2 h3 h4 h5 => ?_, fun j => ?_, fun q hq => ?_, fun q j hq hj => ?_⟩
  · rw [zpE _ _ _ h1, zpE _ _ _ h5, zpE _ _ _ h4, zpE _ _ _ h3, zpE _ _ _ h2, zpE _ _ _ h1]
  · by_cases c2 : j = 224 + t
    · rw [c2, if_neg (show ¬ 224 + t = 50 + cl t by omega), if_pos rfl, zu3]
      simp (disch := omega) only [zu1, zu2, zu3, hw0]
      rfl
    · rw [zu2 _ _ c2]
      by_cases c1 : j = 50 + cl t
      · rw [if_pos c1, c1]
        simp (disch := omega) only [zu1, zu3, hw30]
      · rw [if_neg c1, if_neg c2]
        simp (disch := omega) only [zu1]
        rw [zu2 _ _ c1]
  · rcases (show q = 0 ∨ q = 1 ∨ q = 2 ∨ q = 3 by omega) with rfl | rfl | rfl | rfl
    · simp (disch := omega) only [zu1, zu3, Nat.add_zero]; rfl
    · simp (disch := omega) only [zu1, zu3, Nat.reduceAdd, hw0]; rfl
    · simp (disch := omega) only [zu1, zu2, zu3, Nat.reduceAdd]; rfl
    · simp (disch := omega) only [zu1, zu2, zu3, Nat.reduceAdd, hw0]; rfl
  · rcases (show q = 0 ∨ q = 1 ∨ q = 2 ∨ q = 3 by omega) with rfl | rfl | rfl | rfl
    · simp (disch := omega) only [zu1, Nat.add_zero]; rw [zu2 _ _ hj]; simp (disch := omega) only [zu1]
    · simp (disch := omega) only [zu1, Nat.reduceAdd]; rw [zu2 _ _ hj]; simp (disch := omega) only [zu1]
    · simp (disch := omega) only [zu1, Nat.reduceAdd]; rw [zu2 _ _ hj]; simp (disch := omega) only [zu1]
    · simp (disch := omega) only [zu1, Nat.reduceAdd]; rw [zu2 _ _ hj]; simp (disch := omega) only [zu1]
/-- the model's even: neighbours by and by -/
def yN (C : Nat → Int32) (p : Int32) (f a k : Nat) : Int32 := if k = 0 then (if a % 6 < 5 then (C (f + (a + 1)) - C (f + a)) / p else 0) else if k = 1 then (if 0 < a % 6 then (C (f + (a - 1)) - C (f + a)) / p else 0) else if k = 2 then (if a < 24 then (C (f + (a + 6)) - C (f + a)) / p else 0) else (if 6 ≤ a then (C (f + (a - 6)) - C (f + a)) / p else 0)
def yGs (C : Nat → Int32) (p : Int32) (f a : Nat) : Nat → Int32
  | 0 => C (f + a)
  | k + 1 => yGs C p f a k + yN C p f a k
theorem div_neg_s {y : Int32} {m : Nat} (hm : 0 < m ∧ m < 100) (hy : -100000 ≤ y.toInt ∧ y.toInt ≤ 100000) : -y / nI m = -(y / nI m) := by
  have hne : nI m ≠ -1 := fun q => absurd (congrArg Int32.toInt q) (by rw [nIi (by omega), Tm1]; omega)
  apply Int32.toInt_inj.mp
  have e1 := Int32.toInt_div_of_ne_right (-y) (nI m) hne
  have e2 := Int32.toInt_div_of_ne_right y (nI m) hne
  rw [toInt_neg_s hy, Int.neg_tdiv] at e1
  have h1 := (-y / nI m).toInt_lt
  have h2 := (-y / nI m).le_toInt
  rw [Int32.toInt_neg, e2, ← e1, Int.bmod_eq_of_le (by omega) (by omega)]
/-- one neighbour's share -/
theorem y_term {x : Int32} {m : Nat} (hm : 0 < m ∧ m < 100) (hx : -20000 ≤ x.toInt ∧ x.toInt ≤ 20000) : (0 ≤ x.toInt → 0 ≤ (x / nI m).toInt ∧ m * (x / nI m).toInt ≤ x.toInt) ∧ (x.toInt < 0 → x.toInt ≤ m * (x / nI m).toInt ∧ (x / nI m).toInt ≤ 0) := by
  have pos : ∀ y : Int32, 0 ≤ y.toInt → y.toInt ≤ 20000 → 0 ≤ (y / nI m).toInt ∧ m * (y / nI m).toInt ≤ y.toInt := by
    intro y h1 h2
    obtain ⟨a, k1, k2, k3, k4⟩ := qNat (x := y) (lo := 0) (hi := 20000) ⟨h1, h2⟩ (Int.le_refl 0)
    have hle : a / m ≤ a := Nat.div_le_self a m
    rw [← k2, k1, pk_div k4 hm.1 (by omega), nIi (by omega)]
    have := Nat.mul_div_le a m
    exact ⟨Int.natCast_nonneg _, by rw [← Int.natCast_mul]; exact Int.ofNat_le.mpr this⟩
  refine ⟨fun h => pos x h hx.2, fun h => ?_⟩
  have hn := toInt_neg_s (a := x) (by omega)
  have h2 := pos (-x) (by omega) (by omega)
  rw [div_neg_s hm (by omega)] at h2
  have hb : -100000 ≤ (x / nI m).toInt ∧ (x / nI m).toInt ≤ 100000 := by
    have e := div_neg_s (y := -x) hm (by omega)
    rw [Int32.neg_neg] at e
    have h3 := pos (-x) (by omega) (by omega)
    have hle : (-x / nI m).toInt ≤ (-x).toInt := by
      have h4 : (1 : Int) ≤ m := by omega
      have h5 : 1 * (-x / nI m).toInt ≤ m * (-x / nI m).toInt := Int.mul_le_mul_of_nonneg_right h4 h3.1
      omega
    rw [e, toInt_neg_s (by omega)]
    omega
  rw [toInt_neg_s hb] at h2
  have e3 : (m : Int) * -(x / nI m).toInt = -((m : Int) * (x / nI m).toInt) := Int.mul_neg ..
  omega
theorem yGs_eq {C : Nat → Int32} {m f a : Nat} (hm : 0 < m ∧ m < 100) (ha : a < 30) (hC : ∀ j, j < 30 → 0 ≤ (C (f + j)).toInt ∧ (C (f + j)).toInt ≤ 9999) : yGs C (nI m) f a 4 = C (f + a) + yMv C (nI m) f 30 a := by
  have neg : ∀ j, j < 30 → (C (f + j) - C (f + a)) / nI m = -((C (f + a) - C (f + j)) / nI m) := fun j hj => by
    have h1 := hC a ha
    have h2 := hC j hj
    rw [← div_neg_s hm (by rw [toInt_sub_s (by omega) (by omega)]; omega), Int32.neg_sub]
  show C (f + a) + yN C (nI m) f a 0 + yN C (nI m) f a 1 + yN C (nI m) f a 2 + yN C (nI m) f a 3 = _
  have n0 : yN C (nI m) f a 0 = -(if a % 6 < 5 then (C (f + a) - C (f + (a + 1))) / nI m else 0) := by
    show (if a % 6 < 5 then (C (f + (a + 1)) - C (f + a)) / nI m else 0) = _
    by_cases c : a % 6 < 5
    · rw [if_pos c, if_pos c]; exact neg _ (by omega)
    · rw [if_neg c, if_neg c]; rfl
  have n2 : yN C (nI m) f a 2 = -(if a < 24 then (C (f + a) - C (f + (a + 6))) / nI m else 0) := by
    show (if a < 24 then (C (f + (a + 6)) - C (f + a)) / nI m else 0) = _
    by_cases c : a < 24
    · rw [if_pos c, if_pos c]; exact neg _ (by omega)
    · rw [if_neg c, if_neg c]; rfl
  have n1 : yN C (nI m) f a 1 = (if 0 < a % 6 then (C (f + (a - 1)) - C (f + a)) / nI m else 0) := rfl
  have n3 : yN C (nI m) f a 3 = (if 6 ≤ a then (C (f + (a - 6)) - C (f + a)) / nI m else 0) := rfl
  have e1 : (6 ≤ a ∧ a < 30 + 6) = (6 ≤ a) := propext (by omega)
  have e2 : (0 < a % 6 ∧ a < 30 + 1) = (0 < a % 6) := propext (by omega)
  have e3 : (a < 30 ∧ a % 6 < 5) = (a % 6 < 5) := propext (by omega)
  have e4 : (a < 30 ∧ a < 24) = (a < 24) := propext (by omega)
  unfold yMv
  simp only [e1, e2, e3, e4]
  rw [n0, n1, n2, n3]
  generalize (if a % 6 < 5 then (C (f + a) - C (f + (a + 1))) / nI m else 0) = x0
  generalize (if 0 < a % 6 then (C (f + (a - 1)) - C (f + a)) / nI m else 0) = x1
  generalize (if a < 24 then (C (f + a) - C (f + (a + 6))) / nI m else 0) = x2
  generalize (if 6 ≤ a then (C (f + (a - 6)) - C (f + a)) / nI m else 0) = x3
  generalize C (f + a) = y
  rw [Int32.zero_add, Int32.sub_eq_add_neg, Int32.sub_eq_add_neg]
  ac_rfl
/-- what is under stays in its range -/
theorem yGs_rg {C : Nat → Int32} {m f a M : Nat} (hm : 4 ≤ m ∧ m < 100) (ha : a < 30) (hM : M ≤ 9999) (hC : ∀ j, j < 30 → 0 ≤ (C (f + j)).toInt ∧ (C (f + j)).toInt ≤ M) : 0 ≤ (yGs C (nI m) f a 4).toInt ∧ (yGs C (nI m) f a 4).toInt ≤ M := by
  have h0 := hC a ha
  have term : ∀ k, -(C (f + a)).toInt ≤ m * (yN C (nI m) f a k).toInt ∧ m * (yN C (nI m) f a k).toInt ≤ M - (C (f + a)).toInt ∧ -10000 ≤ (yN C (nI m) f a k).toInt ∧ (yN C (nI m) f a k).toInt ≤ 10000 := by
    intro k
    have z : -(C (f + a)).toInt ≤ m * (0 : Int32).toInt ∧ m * (0 : Int32).toInt ≤ M - (C (f + a)).toInt ∧ -10000 ≤ (0 : Int32).toInt ∧ (0 : Int32).toInt ≤ 10000 := by rw [T0, Int.mul_zero]; omega
    have t : ∀ j, j < 30 → -(C (f + a)).toInt ≤ m * ((C (f + j) - C (f + a)) / nI m).toInt ∧ m * ((C (f + j) - C (f + a)) / nI m).toInt ≤ M - (C (f + a)).toInt ∧ -10000 ≤ ((C (f + j) - C (f + a)) / nI m).toInt ∧ ((C (f + j) - C (f + a)) / nI m).toInt ≤ 10000 := by
      intro j hj
      have hj2 := hC j hj
      have hs := toInt_sub_s (a := C (f + j)) (b := C (f + a)) (by omega) (by omega)
      obtain ⟨g1, g2⟩ := y_term (x := C (f + j) - C (f + a)) (m := m) (by omega) (by omega)
      generalize (C (f + j) - C (f + a)) / nI m = q at *
      by_cases c : 0 ≤ (C (f + j) - C (f + a)).toInt
      · obtain ⟨g3, g4⟩ := g1 c
        have h5 : 1 * q.toInt ≤ m * q.toInt := Int.mul_le_mul_of_nonneg_right (by omega) g3
        omega
      · obtain ⟨g3, g4⟩ := g2 (by omega)
        have h5 : 1 * (-q.toInt) ≤ m * (-q.toInt) := Int.mul_le_mul_of_nonneg_right (by omega) (by omega)
        rw [Int.mul_neg, Int.mul_neg] at h5
        omega
    unfold yN
    by_cases k0 : k = 0
    · rw [if_pos k0]
      by_cases c : a % 6 < 5
      · rw [if_pos c]; exact t _ (by omega)
      · rw [if_neg c]; exact z
    rw [if_neg k0]
    by_cases k1 : k = 1
    · rw [if_pos k1]
      by_cases c : 0 < a % 6
      · rw [if_pos c]; exact t _ (by omega)
      · rw [if_neg c]; exact z
    rw [if_neg k1]
    by_cases k2 : k = 2
    · rw [if_pos k2]
      by_cases c : a < 24
      · rw [if_pos c]; exact t _ (by omega)
      · rw [if_neg c]; exact z
    rw [if_neg k2]
    by_cases c : 6 ≤ a
    · rw [if_pos c]; exact t _ (by omega)
    · rw [if_neg c]; exact z
  have t0 := term 0
  have t1 := term 1
  have t2 := term 2
  have t3 := term 3
  have hs : (yGs C (nI m) f a 4).toInt = (C (f + a)).toInt + (yN C (nI m) f a 0).toInt + (yN C (nI m) f a 1).toInt + (yN C (nI m) f a 2).toInt + (yN C (nI m) f a 3).toInt := by
    show (C (f + a) + yN C (nI m) f a 0 + yN C (nI m) f a 1 + yN C (nI m) f a 2 + yN C (nI m) f a 3).toInt = _
    have a1 := toInt_add_s (a := C (f + a)) (b := yN C (nI m) f a 0) (by omega) (by omega)
    have a2 := toInt_add_s (a := C (f + a) + yN C (nI m) f a 0) (b := yN C (nI m) f a 1) (by omega) (by omega)
    have a3 := toInt_add_s (a := C (f + a) + yN C (nI m) f a 0 + yN C (nI m) f a 1) (b := yN C (nI m) f a 2) (by omega) (by omega)
    have a4 := toInt_add_s (a := C (f + a) + yN C (nI m) f a 0 + yN C (nI m) f a 1 + yN C (nI m) f a 2) (b := yN C (nI m) f a 3) (by omega) (by omega)
    omega
  rw [hs]
  generalize (yN C (nI m) f a 0).toInt = q0 at *
  generalize (yN C (nI m) f a 1).toInt = q1 at *
  generalize (yN C (nI m) f a 2).toInt = q2 at *
  generalize (yN C (nI m) f a 3).toInt = q3 at *
  generalize (C (f + a)).toInt = y at *
  have key : ∀ q : Int, -y ≤ m * q → m * q ≤ M - y → -y ≤ 4 * q ∧ 4 * q ≤ M - y := by
    intro q h1 h2
    by_cases c : 0 ≤ q
    · have h5 : 4 * q ≤ m * q := Int.mul_le_mul_of_nonneg_right (by omega) c
      omega
    · have h5 : 4 * (-q) ≤ m * (-q) := Int.mul_le_mul_of_nonneg_right (by omega) (by omega)
      rw [Int.mul_neg, Int.mul_neg] at h5
      omega
  have b0 := key q0 t0.1 t0.2.1
  have b1 := key q1 t1.1 t1.2.1
  have b2 := key q2 t2.1 t2.2.1
  have b3 := key q3 t3.1 t3.2.1
  omega
