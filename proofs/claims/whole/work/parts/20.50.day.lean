theorem T800 : (800 : Int32).toInt = 800 := rfl
def yMn (M x : Int32) : Int32 := if x.toInt ≤ M.toInt then x else M
theorem yMn_lt (M x : Int32) : (if x.toInt < M.toInt then x else M) = yMn M x := by
  unfold yMn
  by_cases c : x.toInt < M.toInt
  · rw [if_pos c, if_pos (by omega)]
  · rw [if_neg c]
    by_cases c2 : x.toInt ≤ M.toInt
    · rw [if_pos c2]; exact Int32.toInt_inj.mp (by omega)
    · rw [if_neg c2]
def yM0 (x : Int32) : Int32 := if 0 < x.toInt then x else 0
theorem yM0_le (x : Int32) : (if 0 ≤ x.toInt then x else 0) = yM0 x := by
  unfold yM0
  by_cases c : 0 < x.toInt
  · rw [if_pos c, if_pos (by omega)]
  · rw [if_neg c]
    by_cases c2 : 0 ≤ x.toInt
    · rw [if_pos c2]; exact Int32.toInt_inj.mp (by rw [T0]; omega)
    · rw [if_neg c2]
/-- what heat and water are behind what they get -/
def yC1 (C : Nat → Int32) (j : Nat) : Int32 := if j < 30 then yMn 1500 (C j + C (60 + j)) else if j < 60 then yMn 9999 (C j + C (60 + j)) else C j
/-- what a tap gives, how hot -/
def yV (kd tn sh : Nat → Int32) (cl : Nat → Nat) (C : Nat → Int32) (t : Nat) : Int32 :=
  if sh t = 0 then (if (C (30 + cl t)).toInt < (if kd t = 0 then C (30 + cl t) / nI 10 else if kd t = 1 then tn t else tn t + tn t / nI 2).toInt then C (30 + cl t) else (if kd t = 0 then C (30 + cl t) / nI 10 else if kd t = 1 then tn t else tn t + tn t / nI 2)) else 0
def yH (kd : Nat → Int32) (cl : Nat → Nat) (C : Nat → Int32) (t : Nat) : Int32 := C (cl t) + (if kd t = nI 2 then nI 50 else 0)
def yI (v h : Int32) : Int32 := if v.toInt ≤ 0 then 0 else if h.toInt < 500 then 0 else if h.toInt < 800 then 1 else nI 2
def yC2 (kd tn sh : Nat → Int32) (cl : Nat → Nat) (C : Nat → Int32) : Nat → Nat → Int32
  | 0 => C
  | t + 1 => upd (yC2 kd tn sh cl C t) (30 + cl t) (yC2 kd tn sh cl C t (30 + cl t) - yV kd tn sh cl (yC2 kd tn sh cl C t) t)
/-- GAVE, HOT, COMES, WARM -/
def yF (v h S l : Int32) (q : Nat) : Int32 := if q = 0 then v else if q = 1 then h else if q = 2 then yM0 (v - S / nI 10) else yM0 (h - nI 10 * l / (v + nI 10))
theorem s_get (v0 : Nat) (w : zWd) {a b c : Nat} (ha : a < 4) (hb : b < 4) (hc : c < 30) {M : Int32} (hM : (zSVv 0).getD a 0 = M) : mX0_get v0 (nI a) (nI b) (nI c) w = some ((), zup w (v0 + 1) (30 * a + c) (yMn M (w (v0 + 1) (30 * a + c) + w (v0 + 1) (30 * b + c)))) := by
  unfold mX0_get
  simp (disch := (first | omega | (simp (disch := omega) only [zu1, zu2, zu3, nIi, hM, show a * 30 + c = 30 * a + c by omega, show b * 30 + c = 30 * b + c by omega, yMn_lt]; omega))) only [if_true, if_false, zE10, zE00, zOkN, Nat.reduceAdd, Nat.reduceMul, zcl_s, zif01, zbn_e, nIi, nI_clamp, nI_add, nI_1, pk_mul, zgi, zlt, zle, Int32.zero_add, Int32.add_zero, C0, C1, G0, G1, Nat.zero_add, Nat.add_zero, l2, l3, l4, l5, l6, l7, l8, l10, l11, l12, l20, l30, l48, l50, l60, l100, l120, l140, l152, l164, l176, l188, l200, l212, l224, l1604, l1880, l2000, l2008, l2016, l2024, l2032, l2040, l2048, l2210, l2240, l2270, l2300, l2330, l2390, l2450, l2510, l2570, l2590, l2620, l2650, l2660, l2700, T0, T1, Tm1, Tm99, Tm999, p_within, p_in, p_isCell, p_isOwner, p_isDay11, p_isDay12, p_isTap11, p_isTaker11, if_pos, if_neg, p_isTap12, p_isTaker12, p_isGone, zu1, zu2, zu3, nIe, Nat.reduceSub, hM, show a * 30 + c = 30 * a + c by omega, show b * 30 + c = 30 * b + c by omega, yMn_lt]
theorem s_give61 (v0 : Nat) (w : zWd) {t c : Nat} (ht : t < 12) (hc : c < 30) (v s0 s1 : Int32) (hv : 0 ≤ v.toInt ∧ v.toInt ≤ 9999) : ∃ w', mX0_give_61 v0 (nI t) (nI c) v s0 s1 w = some ((), w') ∧ (∀ a, a ≠ v0 + 1 → a ≠ v0 + 7 → a ≠ v0 + 8 → w' a = w a) ∧ (∀ j, w' (v0 + 1) j = if j = 30 + c then w (v0 + 1) (30 + c) - v else w (v0 + 1) j) ∧ (∀ j, w' (v0 + 7) j = if j = t then w (v0 + 7) t + yI v (s1 + s0) else w (v0 + 7) j) ∧ (∀ q, q < 4 → w' (v0 + 8) (4 * t + q) = yF v (s1 + s0) (w (v0 + 7) t) (w (v0 + 6) t) q) ∧ ∀ j, j < 4 * t ∨ 4 * t + 4 ≤ j → w' (v0 + 8) j = w (v0 + 8) j := by
  have n10 : ¬ v + nI 10 = 0 := fun q => by
    have := congrArg Int32.toInt q
    rw [toInt_add_s (by omega) (by rw [nIi (by omega)]; omega), nIi (by omega), T0] at this
    omega
  have tq : ∀ q, t * 4 + q = 4 * t + q := fun q => by omega
  let w5 : zWd := zup (zup (zup (zup (zup w (v0 + 1) (30 + c) (w (v0 + 1) (30 + c) - v)) (v0 + 8) (4 * t) v) (v0 + 8) (4 * t + 1) (s1 + s0)) (v0 + 8) (4 * t + 2) (yM0 (v - w (v0 + 7) t / nI 10))) (v0 + 8) (4 * t + 3) (yM0 (s1 + s0 - nI 10 * w (v0 + 6) t / (v + nI 10)))
  have e5 : mX0_give_61 v0 (nI t) (nI c) v s0 s1 w = if v.toInt ≤ 0 then some ((), w5) else if (s1 + s0).toInt < 500 then some ((), w5) else if (s1 + s0).toInt < 800 then some ((), zup w5 (v0 + 7) t (w (v0 + 7) t + 1)) else some ((), zup w5 (v0 + 7) t (w (v0 + 7) t + nI 2)) := by
    have c1 : (if 0 < (v - w (v0 + 7) t / nI 10).toInt then v - w (v0 + 7) t / nI 10 else 0) = yM0 (v - w (v0 + 7) t / nI 10) := rfl
    have c2 : (if 0 < (s1 + s0 - nI 10 * w (v0 + 6) t / (v + nI 10)).toInt then s1 + s0 - nI 10 * w (v0 + 6) t / (v + nI 10) else 0) = yM0 (s1 + s0 - nI 10 * w (v0 + 6) t / (v + nI 10)) := rfl
    unfold mX0_give_61 mX0_give_192 mX0_give_194
    simp (disch := (first | omega | (simp (disch := omega) only [zu1, zu2, zu3, nIi, zgd_t n10, c1, c2, T500, T800, show t * 4 + 1 = 4 * t + 1 by omega, show t * 4 + 2 = 4 * t + 2 by omega, show t * 4 + 3 = 4 * t + 3 by omega, show t * 4 = 4 * t by omega]; omega))) only [if_true, if_false, zE10, zE00, zOkN, Nat.reduceAdd, Nat.reduceMul, zcl_s, zif01, zbn_e, nIi, nI_clamp, nI_add, nI_1, pk_mul, zgi, zlt, zle, Int32.zero_add, Int32.add_zero, C0, C1, G0, G1, Nat.zero_add, Nat.add_zero, l2, l3, l4, l5, l6, l7, l8, l10, l11, l12, l20, l30, l48, l50, l60, l100, l120, l140, l152, l164, l176, l188, l200, l212, l224, l1604, l1880, l2000, l2008, l2016, l2024, l2032, l2040, l2048, l2210, l2240, l2270, l2300, l2330, l2390, l2450, l2510, l2570, l2590, l2620, l2650, l2660, l2700, T0, T1, Tm1, Tm99, Tm999, p_within, p_in, p_isCell, p_isOwner, p_isDay11, p_isDay12, p_isTap11, p_isTaker11, if_pos, if_neg, p_isTap12, p_isTaker12, p_isGone, zu1, zu2, zu3, nIe, Nat.reduceSub, zgd_t n10, c1, c2, T500, T800, show t * 4 + 1 = 4 * t + 1 by omega, show t * 4 + 2 = 4 * t + 2 by omega, show t * 4 + 3 = 4 * t + 3 by omega, show t * 4 = 4 * t by omega]
    rfl
  have p1 : ∀ a, a ≠ v0 + 1 → a ≠ v0 + 8 → w5 a = w a := fun a h1 h2 => by
    show zup (zup (zup (zup (zup w (v0 + 1) (30 + c) _) (v0 + 8) (4 * t) v) (v0 + 8) (4 * t + 1) (s1 + s0)) (v0 + 8) (4 * t + 2) _) (v0 + 8) (4 * t + 3) _ a = w a
    rw [zpE _ _ _ h2, zpE _ _ _ h2, zpE _ _ _ h2, zpE _ _ _ h2, zpE _ _ _ h1]
  have p2 : ∀ j, w5 (v0 + 1) j = if j = 30 + c then w (v0 + 1) (30 + c) - v else w (v0 + 1) j := fun j => by
    show zup (zup (zup (zup (zup w (v0 + 1) (30 + c) _) (v0 + 8) (4 * t) v) (v0 + 8) (4 * t + 1) (s1 + s0)) (v0 + 8) (4 * t + 2) _) (v0 + 8) (4 * t + 3) _ (v0 + 1) j = _
    rw [zpE _ _ _ (by omega), zpE _ _ _ (by omega), zpE _ _ _ (by omega), zpE _ _ _ (by omega)]
    by_cases e : j = 30 + c
    · rw [if_pos e, e, zu3]
    · rw [if_neg e, zu2 _ _ e]
  have p3 : ∀ q, q < 4 → w5 (v0 + 8) (4 * t + q) = yF v (s1 + s0) (w (v0 + 7) t) (w (v0 + 6) t) q := fun q hq => by
    show zup (zup (zup (zup (zup w (v0 + 1) (30 + c) _) (v0 + 8) (4 * t) v) (v0 + 8) (4 * t + 1) (s1 + s0)) (v0 + 8) (4 * t + 2) _) (v0 + 8) (4 * t + 3) _ (v0 + 8) _ = _
    rcases (show q = 0 ∨ q = 1 ∨ q = 2 ∨ q = 3 by omega) with rfl | rfl | rfl | rfl
    · rw [zu2 _ _ (by omega), zu2 _ _ (by omega), zu2 _ _ (by omega)]; exact (zu3 _ (v0 + 8) (4 * t) v).trans rfl
    · rw [zu2 _ _ (by omega), zu2 _ _ (by omega), zu3]; rfl
    · rw [zu2 _ _ (by omega), zu3]; rfl
    · rw [zu3]; rfl
  have p4 : ∀ j, j < 4 * t ∨ 4 * t + 4 ≤ j → w5 (v0 + 8) j = w (v0 + 8) j := fun j hj => by
    show zup (zup (zup (zup (zup w (v0 + 1) (30 + c) _) (v0 + 8) (4 * t) v) (v0 + 8) (4 * t + 1) (s1 + s0)) (v0 + 8) (4 * t + 2) _) (v0 + 8) (4 * t + 3) _ (v0 + 8) j = _
    rw [zu2 _ _ (by omega), zu2 _ _ (by omega), zu2 _ _ (by omega), zu2 _ _ (by omega), zpE _ _ _ (by omega)]
  clear_value w5
  have stay : yI v (s1 + s0) = 0 → ∃ w', some ((), w5) = some ((), w') ∧ (∀ a, a ≠ v0 + 1 → a ≠ v0 + 7 → a ≠ v0 + 8 → w' a = w a) ∧ (∀ j, w' (v0 + 1) j = if j = 30 + c then w (v0 + 1) (30 + c) - v else w (v0 + 1) j) ∧ (∀ j, w' (v0 + 7) j = if j = t then w (v0 + 7) t + yI v (s1 + s0) else w (v0 + 7) j) ∧ (∀ q, q < 4 → w' (v0 + 8) (4 * t + q) = yF v (s1 + s0) (w (v0 + 7) t) (w (v0 + 6) t) q) ∧ ∀ j, j < 4 * t ∨ 4 * t + 4 ≤ j → w' (v0 + 8) j = w (v0 + 8) j := by
    intro hI
    refine ⟨w5, rfl, fun a h1 _ h3 => p1 a h1 h3, p2, fun j => ?_, p3, p4⟩
    rw [hI, Int32.add_zero, p1 (v0 + 7) (by omega) (by omega)]
    by_cases e : j = t
    · rw [if_pos e, e]
    · rw [if_neg e]
  have more : ∀ x, yI v (s1 + s0) = x → ∃ w', some ((), zup w5 (v0 + 7) t (w (v0 + 7) t + x)) = some ((), w') ∧ (∀ a, a ≠ v0 + 1 → a ≠ v0 + 7 → a ≠ v0 + 8 → w' a = w a) ∧ (∀ j, w' (v0 + 1) j = if j = 30 + c then w (v0 + 1) (30 + c) - v else w (v0 + 1) j) ∧ (∀ j, w' (v0 + 7) j = if j = t then w (v0 + 7) t + yI v (s1 + s0) else w (v0 + 7) j) ∧ (∀ q, q < 4 → w' (v0 + 8) (4 * t + q) = yF v (s1 + s0) (w (v0 + 7) t) (w (v0 + 6) t) q) ∧ ∀ j, j < 4 * t ∨ 4 * t + 4 ≤ j → w' (v0 + 8) j = w (v0 + 8) j := by
    intro x hI
    refine ⟨_, rfl, fun a h1 h2 h3 => by rw [zpE _ _ _ h2]; exact p1 a h1 h3, fun j => by rw [zpE _ _ _ (by omega)]; exact p2 j, fun j => ?_, fun q hq => by rw [zpE _ _ _ (by omega)]; exact p3 q hq, fun j hj => by rw [zpE _ _ _ (by omega)]; exact p4 j hj⟩
    rw [hI]
    by_cases e : j = t
    · rw [if_pos e, e, zu3]
    · rw [if_neg e, zu2 _ _ e, p1 (v0 + 7) (by omega) (by omega)]
  rw [e5]
  by_cases k1 : v.toInt ≤ 0
  · rw [if_pos k1]; exact stay (if_pos k1)
  rw [if_neg k1]
  by_cases k2 : (s1 + s0).toInt < 500
  · rw [if_pos k2]; exact stay ((if_neg k1).trans (if_pos k2))
  rw [if_neg k2]
  by_cases k3 : (s1 + s0).toInt < 800
  · rw [if_pos k3]; exact more _ ((if_neg k1).trans ((if_neg k2).trans (if_pos k3)))
  · rw [if_neg k3]; exact more _ ((if_neg k1).trans ((if_neg k2).trans (if_neg k3)))
/-- one tap gives -/
theorem s_give {v0 : Nat} {w : zWd} {kd tn sh : Nat → Int32} {cl : Nat → Nat} {t : Nat} (ht : t < 12) (hc : cl t < 30) (k0 : w (v0 + 2) t = kd t) (k1 : w (v0 + 3) t = nI (cl t)) (k2 : w (v0 + 4) t = tn t) (k3 : qBit (w v0 2) t = sh t) (hv : 0 ≤ (yV kd tn sh cl (w (v0 + 1)) t).toInt ∧ (yV kd tn sh cl (w (v0 + 1)) t).toInt ≤ 9999) : ∃ w', mX0_give v0 (nI t) w = some ((), w') ∧ (∀ a, a ≠ v0 + 1 → a ≠ v0 + 7 → a ≠ v0 + 8 → w' a = w a) ∧ (∀ j, w' (v0 + 1) j = if j = 30 + cl t then w (v0 + 1) (30 + cl t) - yV kd tn sh cl (w (v0 + 1)) t else w (v0 + 1) j) ∧ (∀ j, w' (v0 + 7) j = if j = t then w (v0 + 7) t + yI (yV kd tn sh cl (w (v0 + 1)) t) (yH kd cl (w (v0 + 1)) t) else w (v0 + 7) j) ∧ (∀ q, q < 4 → w' (v0 + 8) (4 * t + q) = yF (yV kd tn sh cl (w (v0 + 1)) t) (yH kd cl (w (v0 + 1)) t) (w (v0 + 7) t) (w (v0 + 6) t) q) ∧ ∀ j, j < 4 * t ∨ 4 * t + 4 ≤ j → w' (v0 + 8) j = w (v0 + 8) j := by
  have e36 : mX0_give_36 v0 (nI t) (nI (cl t)) (yV kd tn sh cl (w (v0 + 1)) t) w = mX0_give_61 v0 (nI t) (nI (cl t)) (yV kd tn sh cl (w (v0 + 1)) t) (if kd t = nI 2 then nI 50 else 0) (w (v0 + 1) (cl t)) w := by
    unfold mX0_give_36
    by_cases c : kd t = nI 2
    · have c' : kd t = 2 := c
      rw [if_pos c]
      simp (disch := (first | omega | (simp (disch := omega) only [zu1, zu2, zu3, nIi, k0, c]; omega))) only [if_true, if_false, zE10, zE00, zOkN, Nat.reduceAdd, Nat.reduceMul, zcl_s, zif01, zbn_e, nIi, nI_clamp, nI_add, nI_1, pk_mul, zgi, zlt, zle, Int32.zero_add, Int32.add_zero, C0, C1, G0, G1, Nat.zero_add, Nat.add_zero, l2, l3, l4, l5, l6, l7, l8, l10, l11, l12, l20, l30, l48, l50, l60, l100, l120, l140, l152, l164, l176, l188, l200, l212, l224, l1604, l1880, l2000, l2008, l2016, l2024, l2032, l2040, l2048, l2210, l2240, l2270, l2300, l2330, l2390, l2450, l2510, l2570, l2590, l2620, l2650, l2660, l2700, T0, T1, Tm1, Tm99, Tm999, p_within, p_in, p_isCell, p_isOwner, p_isDay11, p_isDay12, p_isTap11, p_isTaker11, if_pos, if_neg, p_isTap12, p_isTaker12, p_isGone, zu1, zu2, zu3, nIe, Nat.reduceSub, k0, c]
    · rw [if_neg c]
      simp (disch := (first | omega | (simp (disch := omega) only [zu1, zu2, zu3, nIi, k0, c]; omega))) only [if_true, if_false, zE10, zE00, zOkN, Nat.reduceAdd, Nat.reduceMul, zcl_s, zif01, zbn_e, nIi, nI_clamp, nI_add, nI_1, pk_mul, zgi, zlt, zle, Int32.zero_add, Int32.add_zero, C0, C1, G0, G1, Nat.zero_add, Nat.add_zero, l2, l3, l4, l5, l6, l7, l8, l10, l11, l12, l20, l30, l48, l50, l60, l100, l120, l140, l152, l164, l176, l188, l200, l212, l224, l1604, l1880, l2000, l2008, l2016, l2024, l2032, l2040, l2048, l2210, l2240, l2270, l2300, l2330, l2390, l2450, l2510, l2570, l2590, l2620, l2650, l2660, l2700, T0, T1, Tm1, Tm99, Tm999, p_within, p_in, p_isCell, p_isOwner, p_isDay11, p_isDay12, p_isTap11, p_isTaker11, if_pos, if_neg, p_isTap12, p_isTaker12, p_isGone, zu1, zu2, zu3, nIe, Nat.reduceSub, k0, c]
  have key : mX0_give v0 (nI t) w = mX0_give_36 v0 (nI t) (nI (cl t)) (yV kd tn sh cl (w (v0 + 1)) t) w := by
    have hs : mX0_isShut v0 (nI t) w = some (if sh t = 0 then 0 else 1, w) := by
      unfold mX0_isShut mX0_isShut_16
      show (if qBit (w v0 2) t = 0 then _ else _) = _
      rw [k3]
      by_cases c : sh t = 0
      · rw [if_pos c, if_pos c, zgd_t zB0]
      · rw [if_neg c, if_neg c, zgd_t zB1]
    have hd : mX0_drawn v0 (nI t) w = some (if kd t = 0 then w (v0 + 1) (30 + cl t) / nI 10 else if kd t = 1 then tn t else tn t + tn t / nI 2, w) := by
      unfold mX0_drawn
      by_cases c0 : kd t = 0
      · rw [if_pos c0]
        simp (disch := (first | omega | (simp (disch := omega) only [zu1, zu2, zu3, nIi, k0, k1, c0]; omega))) only [if_true, if_false, zE10, zE00, zOkN, Nat.reduceAdd, Nat.reduceMul, zcl_s, zif01, zbn_e, nIi, nI_clamp, nI_add, nI_1, pk_mul, zgi, zlt, zle, Int32.zero_add, Int32.add_zero, C0, C1, G0, G1, Nat.zero_add, Nat.add_zero, l2, l3, l4, l5, l6, l7, l8, l10, l11, l12, l20, l30, l48, l50, l60, l100, l120, l140, l152, l164, l176, l188, l200, l212, l224, l1604, l1880, l2000, l2008, l2016, l2024, l2032, l2040, l2048, l2210, l2240, l2270, l2300, l2330, l2390, l2450, l2510, l2570, l2590, l2620, l2650, l2660, l2700, T0, T1, Tm1, Tm99, Tm999, p_within, p_in, p_isCell, p_isOwner, p_isDay11, p_isDay12, p_isTap11, p_isTaker11, if_pos, if_neg, p_isTap12, p_isTaker12, p_isGone, zu1, zu2, zu3, nIe, Nat.reduceSub, k0, k1, c0]
      rw [if_neg c0]
      by_cases c1 : kd t = 1
      · have c10 : ¬ (1 : Int32) = 0 := by decide
        rw [if_pos c1]
        simp (disch := (first | omega | (simp (disch := omega) only [zu1, zu2, zu3, nIi, k0, k1, k2, c1]; omega))) only [if_true, if_false, zE10, zE00, zOkN, Nat.reduceAdd, Nat.reduceMul, zcl_s, zif01, zbn_e, nIi, nI_clamp, nI_add, nI_1, pk_mul, zgi, zlt, zle, Int32.zero_add, Int32.add_zero, C0, C1, G0, G1, Nat.zero_add, Nat.add_zero, l2, l3, l4, l5, l6, l7, l8, l10, l11, l12, l20, l30, l48, l50, l60, l100, l120, l140, l152, l164, l176, l188, l200, l212, l224, l1604, l1880, l2000, l2008, l2016, l2024, l2032, l2040, l2048, l2210, l2240, l2270, l2300, l2330, l2390, l2450, l2510, l2570, l2590, l2620, l2650, l2660, l2700, T0, T1, Tm1, Tm99, Tm999, p_within, p_in, p_isCell, p_isOwner, p_isDay11, p_isDay12, p_isTap11, p_isTaker11, if_pos, if_neg, p_isTap12, p_isTaker12, p_isGone, zu1, zu2, zu3, nIe, Nat.reduceSub, k0, k1, k2, c1]
      · rw [if_neg c1]
        simp (disch := (first | omega | (simp (disch := omega) only [zu1, zu2, zu3, nIi, k0, k1, k2, c0, c1]; omega))) only [if_true, if_false, zE10, zE00, zOkN, Nat.reduceAdd, Nat.reduceMul, zcl_s, zif01, zbn_e, nIi, nI_clamp, nI_add, nI_1, pk_mul, zgi, zlt, zle, Int32.zero_add, Int32.add_zero, C0, C1, G0, G1, Nat.zero_add, Nat.add_zero, l2, l3, l4, l5, l6, l7, l8, l10, l11, l12, l20, l30, l48, l50, l60, l100, l120, l140, l152, l164, l176, l188, l200, l212, l224, l1604, l1880, l2000, l2008, l2016, l2024, l2032, l2040, l2048, l2210, l2240, l2270, l2300, l2330, l2390, l2450, l2510, l2570, l2590, l2620, l2650, l2660, l2700, T0, T1, Tm1, Tm99, Tm999, p_within, p_in, p_isCell, p_isOwner, p_isDay11, p_isDay12, p_isTap11, p_isTaker11, if_pos, if_neg, p_isTap12, p_isTaker12, p_isGone, zu1, zu2, zu3, nIe, Nat.reduceSub, k0, k1, k2, c0, c1]
    unfold mX0_give yV
    by_cases c : sh t = 0
    · rw [if_pos c] at hs
      rw [if_pos c]
      generalize (if kd t = 0 then w (v0 + 1) (30 + cl t) / nI 10 else if kd t = 1 then tn t else tn t + tn t / nI 2) = D at hd ⊢
      simp (disch := (first | omega | (simp (disch := omega) only [zu1, zu2, zu3, nIi, k1, hs, hd]; omega))) only [if_true, if_false, zE10, zE00, zOkN, Nat.reduceAdd, Nat.reduceMul, zcl_s, zif01, zbn_e, nIi, nI_clamp, nI_add, nI_1, pk_mul, zgi, zlt, zle, Int32.zero_add, Int32.add_zero, C0, C1, G0, G1, Nat.zero_add, Nat.add_zero, l2, l3, l4, l5, l6, l7, l8, l10, l11, l12, l20, l30, l48, l50, l60, l100, l120, l140, l152, l164, l176, l188, l200, l212, l224, l1604, l1880, l2000, l2008, l2016, l2024, l2032, l2040, l2048, l2210, l2240, l2270, l2300, l2330, l2390, l2450, l2510, l2570, l2590, l2620, l2650, l2660, l2700, T0, T1, Tm1, Tm99, Tm999, p_within, p_in, p_isCell, p_isOwner, p_isDay11, p_isDay12, p_isTap11, p_isTaker11, if_pos, if_neg, p_isTap12, p_isTaker12, p_isGone, zu1, zu2, zu3, nIe, Nat.reduceSub, k1, hs, hd]
    · rw [if_neg c] at hs
      rw [if_neg c]
      have i10 : ((1 : Int32) = 0) = False := by simp
      simp (disch := (first | omega | (simp (disch := omega) only [zu1, zu2, zu3, nIi, k1, hs, i10]; omega))) only [if_true, if_false, zE10, zE00, zOkN, Nat.reduceAdd, Nat.reduceMul, zcl_s, zif01, zbn_e, nIi, nI_clamp, nI_add, nI_1, pk_mul, zgi, zlt, zle, Int32.zero_add, Int32.add_zero, C0, C1, G0, G1, Nat.zero_add, Nat.add_zero, l2, l3, l4, l5, l6, l7, l8, l10, l11, l12, l20, l30, l48, l50, l60, l100, l120, l140, l152, l164, l176, l188, l200, l212, l224, l1604, l1880, l2000, l2008, l2016, l2024, l2032, l2040, l2048, l2210, l2240, l2270, l2300, l2330, l2390, l2450, l2510, l2570, l2590, l2620, l2650, l2660, l2700, T0, T1, Tm1, Tm99, Tm999, p_within, p_in, p_isCell, p_isOwner, p_isDay11, p_isDay12, p_isTap11, p_isTaker11, if_pos, if_neg, p_isTap12, p_isTaker12, p_isGone, zu1, zu2, zu3, nIe, Nat.reduceSub, k1, hs, i10]
  have := s_give61 v0 w ht hc (yV kd tn sh cl (w (v0 + 1)) t) (if kd t = nI 2 then nI 50 else 0) (w (v0 + 1) (cl t)) hv
  rw [key, e36]
  exact this
