/-- writes at places o i of numbers v i -/
def qUp (o : Nat → Nat) (v : Nat → Int32) : Nat → (Nat → Int32) → Nat → Int32
  | 0, P => P
  | i + 1, P => upd (qUp o v i P) (o i) (v i)
theorem qUp_j {o : Nat → Nat} {v : Nat → Int32} (P P' : Nat → Int32) {t : Nat} : ∀ i, (∃ j, j < i ∧ o j = t) → qUp o v i P t = qUp o v i P' t
  | 0, ⟨j, h, _⟩ => by omega
  | i + 1, ⟨j, h1, h2⟩ => by
    unfold qUp
    by_cases e : t = o i
    · rw [e, qu_eq, qu_eq]
    · rw [qu_ne _ _ e, qu_ne _ _ e]
      exact qUp_j P P' i ⟨j, by by_cases ej : j = i; exact absurd (by rw [← h2, ej]) e; omega, h2⟩
theorem qUp_0 {v : Int32} (P : Nat → Int32) {t : Nat} : ∀ i, t < i → qUp (fun j => j) (fun _ => v) i P t = v
  | 0, h => by omega
  | i + 1, h => by
    unfold qUp
    by_cases e : t = i
    · rw [e, qu_eq]
    · rw [qu_ne _ _ e]; exact qUp_0 P i (by omega)
/-- one more at places o i -/
def qIn (o : Nat → Nat) : Nat → (Nat → Int32) → Nat → Int32
  | 0, P => P
  | i + 1, P => upd (qIn o i P) (o i) (qIn o i P (o i) + 1)
theorem qIn_j {o : Nat → Nat} {K : Nat} {P P' : Nat → Int32} (h : ∀ t, t < K → P t = P' t) (ho : ∀ i, i < K → o i < K) : ∀ i, i ≤ K → ∀ t, t < K → qIn o i P t = qIn o i P' t
  | 0, _, t, ht => h t ht
  | i + 1, hi, t, ht => by
    unfold qIn
    rw [qIn_j h ho i (by omega) _ (ho i (by omega))]
    by_cases e : t = o i
    · rw [e, qu_eq, qu_eq]
    · rw [qu_ne _ _ e, qu_ne _ _ e]; exact qIn_j h ho i (by omega) t ht
def qLf (o G : Nat → Nat) (n : Nat) : Nat → Nat
  | 0 => n
  | i + 1 => qLf o G n i - G (o i)
theorem qLf_le (o G : Nat → Nat) (n : Nat) : ∀ i, qLf o G n i ≤ n
  | 0 => Nat.le_refl n
  | i + 1 => by unfold qLf; have := qLf_le o G n i; omega
def qMn (o G : Nat → Nat) (n : Nat) (i : Nat) : Int32 := nI (if G (o i) < qLf o G n i then G (o i) else qLf o G n i)
def qSm (f : Nat → Nat) : Nat → Nat
  | 0 => 0
  | i + 1 => qSm f i + f i
theorem qSm_le {f : Nat → Nat} {M : Nat} (h : ∀ i, f i ≤ M) : ∀ i, qSm f i ≤ i * M
  | 0 => Nat.zero_le _
  | i + 1 => by unfold qSm; have := qSm_le h i; have := h i; rw [Nat.succ_mul]; omega
theorem qSm_le2 {f : Nat → Nat} {M K : Nat} (h : ∀ i, i < K → f i ≤ M) : ∀ i, i ≤ K → qSm f i ≤ i * M
  | 0, _ => Nat.zero_le _
  | i + 1, hi => by unfold qSm; have := qSm_le2 h i (by omega); have := h i (by omega); rw [Nat.succ_mul]; omega
theorem qSm_mono (f : Nat → Nat) : ∀ i j, i ≤ j → qSm f i ≤ qSm f j
  | i, 0, h => by rw [show i = 0 by omega]; exact Nat.le_refl _
  | i, j + 1, h => by
    by_cases e : i = j + 1
    · rw [e]; exact Nat.le_refl _
    · have := qSm_mono f i j (by omega)
      show _ ≤ qSm f j + f j
      omega
/-- what is parted by gallons, cut -/
theorem qSm_div (n A : Nat) (f : Nat → Nat) (hA : 0 < A) : ∀ i, A * qSm (fun j => n * f j / A) i ≤ n * qSm f i ∧ n * qSm f i ≤ A * qSm (fun j => n * f j / A) i + i * (A - 1)
  | 0 => by simp [qSm]
  | i + 1 => by
    obtain ⟨h1, h2⟩ := qSm_div n A f hA i
    unfold qSm
    have e1 := Nat.div_add_mod (n * f i) A
    have e2 := Nat.mod_lt (n * f i) hA
    rw [Nat.mul_add, Nat.mul_add, Nat.succ_mul]
    generalize A * qSm (fun j => n * f j / A) i = p at *
    generalize n * qSm f i = q at *
    generalize A * (n * f i / A) = r at *
    generalize n * f i = x at *
    generalize i * (A - 1) = y at *
    omega
theorem qSm_rest {n K : Nat} {f : Nat → Nat} (hK : 0 < K) (hA : 0 < qSm f K) : qSm (fun j => n * f j / qSm f K) K ≤ n ∧ n - qSm (fun j => n * f j / qSm f K) K < K := by
  obtain ⟨h1, h2⟩ := qSm_div n (qSm f K) f hA K
  generalize qSm (fun j => n * f j / qSm f K) K = S at *
  generalize qSm f K = A at *
  have g1 : S ≤ n := by
    rw [Nat.mul_comm n A] at h1
    exact Nat.le_of_mul_le_mul_left h1 hA
  refine ⟨g1, ?_⟩
  by_cases c : n - S < K
  · exact c
  exfalso
  have g2 : A * K ≤ A * (n - S) := Nat.mul_le_mul_left A (by omega)
  rw [Nat.mul_sub] at g2
  rw [Nat.mul_comm n A] at h2 h1
  have g3 : K * (A - 1) + K = A * K := by
    rw [← Nat.mul_succ, show (A - 1).succ = A by omega, Nat.mul_comm]
  omega
section QWt
variable {u : zWd} {K : Nat} {o G : Nat → Nat}
theorem s_rank11 (hK : K ≤ 8) (ho : ∀ i, i < K → o i < K) (hG : ∀ t, t < K → 1 ≤ G t ∧ G t ≤ 4) (c0 : u 217 0 = nI K) (c1 : ∀ i, i < K → u 219 i = nI (o i)) (c2 : ∀ t, t < K → u 85 t = nI (G t)) {n : Nat} (hn : n ≤ 999) : mX11_partByRank 0 (nI n) u = some ((), qPw u 229 (qUp o (qMn o G n) K (u 229))) := by
  unfold mX11_partByRank mX11_partByRank_4
  refine zlp_to (P := fun (i : Nat) (q : Int32 × Int32 × zWd) => q = (nI (qLf o G n i), nI i, qPw u 229 (qUp o (qMn o G n) i (u 229)))) (n := K) (by unfold zFU; omega) ?_ (by show _ = (nI n, nI 0, qPw u 229 (u 229)); rw [qPw_s]; rfl)
  rintro i hi q rfl k hk
  simp only [mX11_partByRank_4b]
  by_cases e : i = K
  · subst e
    simp (disch := (first | omega | (simp (disch := omega) only [zu1, zu2, zu3, nIi, c0, qPw_n]; omega))) only [if_true, if_false, zE10, zE00, zOkN, Nat.reduceAdd, Nat.reduceMul, zcl_s, zif01, zbn_e, nIi, nI_clamp, nI_add, nI_1, pk_mul, zgi, zlt, zle, Int32.zero_add, Int32.add_zero, C0, C1, G0, G1, Nat.zero_add, Nat.add_zero, l2, l3, l4, l5, l6, l7, l8, l10, l11, l12, l20, l30, l48, l50, l60, l100, l120, l140, l152, l164, l176, l188, l200, l212, l224, l1604, l1880, l2000, l2008, l2016, l2024, l2032, l2040, l2048, l2210, l2240, l2270, l2300, l2330, l2390, l2450, l2510, l2570, l2590, l2620, l2650, l2660, l2700, T0, T1, Tm1, Tm99, Tm999, p_within, p_in, p_isCell, p_isOwner, p_isDay11, p_isDay12, p_isTap11, p_isTaker11, if_pos, if_neg, p_isTap12, p_isTaker12, p_isGone, zu1, zu2, zu3, nIe, Nat.reduceSub, c0, qPw_n]
  have hi2 : i < K := by omega
  have hy1 := c1 i hi2
  have hy2 := c2 _ (ho i hi2)
  have hy3 := ho i hi2
  have hy4 := hG _ (ho i hi2)
  have hy5 := qLf_le o G n i
  by_cases c : G (o i) < qLf o G n i
  · have h1 := hk hi2 (nI (qLf o G n i) - nI (G (o i)), nI (i + 1), qPw u 229 (upd (qUp o (qMn o G n) i (u 229)) (o i) (nI (G (o i))))) (by
      rw [pk_sub (by omega)]
      show (_, _, _) = (nI (qLf o G n i - G (o i)), _, qPw u 229 (upd (qUp o (qMn o G n) i (u 229)) (o i) (qMn o G n i)))
      rw [show qMn o G n i = nI (G (o i)) by unfold qMn; rw [if_pos c]])
    simp (disch := (first | omega | (simp (disch := omega) only [zu1, zu2, zu3, nIi, c0, qPw_n, qPw_e, qPw_uu, qu_eq, hy1, hy2]; omega))) only [if_true, if_false, zE10, zE00, zOkN, Nat.reduceAdd, Nat.reduceMul, zcl_s, zif01, zbn_e, nIi, nI_clamp, nI_add, nI_1, pk_mul, zgi, zlt, zle, Int32.zero_add, Int32.add_zero, C0, C1, G0, G1, Nat.zero_add, Nat.add_zero, l2, l3, l4, l5, l6, l7, l8, l10, l11, l12, l20, l30, l48, l50, l60, l100, l120, l140, l152, l164, l176, l188, l200, l212, l224, l1604, l1880, l2000, l2008, l2016, l2024, l2032, l2040, l2048, l2210, l2240, l2270, l2300, l2330, l2390, l2450, l2510, l2570, l2590, l2620, l2650, l2660, l2700, T0, T1, Tm1, Tm99, Tm999, p_within, p_in, p_isCell, p_isOwner, p_isDay11, p_isDay12, p_isTap11, p_isTaker11, if_pos, if_neg, p_isTap12, p_isTaker12, p_isGone, zu1, zu2, zu3, nIe, Nat.reduceSub, c0, qPw_n, qPw_e, qPw_uu, qu_eq, hy1, hy2]
    exact h1
  · have h1 := hk hi2 (nI (qLf o G n i) - nI (qLf o G n i), nI (i + 1), qPw u 229 (upd (qUp o (qMn o G n) i (u 229)) (o i) (nI (qLf o G n i)))) (by
      rw [pk_sub (by omega)]
      show (_, _, _) = (nI (qLf o G n i - G (o i)), _, qPw u 229 (upd (qUp o (qMn o G n) i (u 229)) (o i) (qMn o G n i)))
      rw [show qMn o G n i = nI (qLf o G n i) by unfold qMn; rw [if_neg c], show qLf o G n i - G (o i) = qLf o G n i - qLf o G n i by omega])
    simp (disch := (first | omega | (simp (disch := omega) only [zu1, zu2, zu3, nIi, c0, qPw_n, qPw_e, qPw_uu, qu_eq, hy1, hy2]; omega))) only [if_true, if_false, zE10, zE00, zOkN, Nat.reduceAdd, Nat.reduceMul, zcl_s, zif01, zbn_e, nIi, nI_clamp, nI_add, nI_1, pk_mul, zgi, zlt, zle, Int32.zero_add, Int32.add_zero, C0, C1, G0, G1, Nat.zero_add, Nat.add_zero, l2, l3, l4, l5, l6, l7, l8, l10, l11, l12, l20, l30, l48, l50, l60, l100, l120, l140, l152, l164, l176, l188, l200, l212, l224, l1604, l1880, l2000, l2008, l2016, l2024, l2032, l2040, l2048, l2210, l2240, l2270, l2300, l2330, l2390, l2450, l2510, l2570, l2590, l2620, l2650, l2660, l2700, T0, T1, Tm1, Tm99, Tm999, p_within, p_in, p_isCell, p_isOwner, p_isDay11, p_isDay12, p_isTap11, p_isTaker11, if_pos, if_neg, p_isTap12, p_isTaker12, p_isGone, zu1, zu2, zu3, nIe, Nat.reduceSub, c0, qPw_n, qPw_e, qPw_uu, qu_eq, hy1, hy2]
    exact h1
theorem s_rank12 (hK : K ≤ 8) (ho : ∀ i, i < K → o i < K) (hG : ∀ t, t < K → 1 ≤ G t ∧ G t ≤ 4) (c0 : u 232 3 = nI K) (c1 : ∀ i, i < K → u 240 i = nI (o i)) (c2 : ∀ t, t < K → u 232 (2016 + t) = nI (G t)) {n t : Nat} (hn : n ≤ 999) (ht : t < 8) : mX12_want_103 231 (nI t) (nI n) 0 u = some (qUp o (qMn o G n) K (u 246) t, qPw u 246 (qUp o (qMn o G n) K (u 246))) := by
  unfold mX12_want_103
  refine zlp_to (P := fun (i : Nat) (q : Int32 × Int32 × zWd) => q = (nI (qLf o G n i), nI i, qPw u 246 (qUp o (qMn o G n) i (u 246)))) (n := K) (by unfold zFU; omega) ?_ (by show _ = (nI n, nI 0, qPw u 246 (u 246)); rw [qPw_s]; rfl)
  rintro i hi q rfl k hk
  simp only [mX12_want_103b, mX12_want_161, mX12_want_396]
  by_cases e : i = K
  · subst e
    simp (disch := (first | omega | (simp (disch := omega) only [zu1, zu2, zu3, nIi, c0, qPw_n, qPw_e]; omega))) only [if_true, if_false, zE10, zE00, zOkN, Nat.reduceAdd, Nat.reduceMul, zcl_s, zif01, zbn_e, nIi, nI_clamp, nI_add, nI_1, pk_mul, zgi, zlt, zle, Int32.zero_add, Int32.add_zero, C0, C1, G0, G1, Nat.zero_add, Nat.add_zero, l2, l3, l4, l5, l6, l7, l8, l10, l11, l12, l20, l30, l48, l50, l60, l100, l120, l140, l152, l164, l176, l188, l200, l212, l224, l1604, l1880, l2000, l2008, l2016, l2024, l2032, l2040, l2048, l2210, l2240, l2270, l2300, l2330, l2390, l2450, l2510, l2570, l2590, l2620, l2650, l2660, l2700, T0, T1, Tm1, Tm99, Tm999, p_within, p_in, p_isCell, p_isOwner, p_isDay11, p_isDay12, p_isTap11, p_isTaker11, if_pos, if_neg, p_isTap12, p_isTaker12, p_isGone, zu1, zu2, zu3, nIe, Nat.reduceSub, c0, qPw_n, qPw_e]
  have hi2 : i < K := by omega
  have hy1 := c1 i hi2
  have hy2 := c2 _ (ho i hi2)
  have hy3 := ho i hi2
  have hy4 := hG _ (ho i hi2)
  have hy5 := qLf_le o G n i
  by_cases c : G (o i) < qLf o G n i
  · have h1 := hk hi2 (nI (qLf o G n i) - nI (G (o i)), nI (i + 1), qPw u 246 (upd (qUp o (qMn o G n) i (u 246)) (o i) (nI (G (o i))))) (by
      rw [pk_sub (by omega)]
      show (_, _, _) = (nI (qLf o G n i - G (o i)), _, qPw u 246 (upd (qUp o (qMn o G n) i (u 246)) (o i) (qMn o G n i)))
      rw [show qMn o G n i = nI (G (o i)) by unfold qMn; rw [if_pos c]])
    simp (disch := (first | omega | (simp (disch := omega) only [zu1, zu2, zu3, nIi, c0, qPw_n, qPw_e, qPw_uu, qu_eq, hy1, hy2]; omega))) only [if_true, if_false, zE10, zE00, zOkN, Nat.reduceAdd, Nat.reduceMul, zcl_s, zif01, zbn_e, nIi, nI_clamp, nI_add, nI_1, pk_mul, zgi, zlt, zle, Int32.zero_add, Int32.add_zero, C0, C1, G0, G1, Nat.zero_add, Nat.add_zero, l2, l3, l4, l5, l6, l7, l8, l10, l11, l12, l20, l30, l48, l50, l60, l100, l120, l140, l152, l164, l176, l188, l200, l212, l224, l1604, l1880, l2000, l2008, l2016, l2024, l2032, l2040, l2048, l2210, l2240, l2270, l2300, l2330, l2390, l2450, l2510, l2570, l2590, l2620, l2650, l2660, l2700, T0, T1, Tm1, Tm99, Tm999, p_within, p_in, p_isCell, p_isOwner, p_isDay11, p_isDay12, p_isTap11, p_isTaker11, if_pos, if_neg, p_isTap12, p_isTaker12, p_isGone, zu1, zu2, zu3, nIe, Nat.reduceSub, c0, qPw_n, qPw_e, qPw_uu, qu_eq, hy1, hy2]
    exact h1
  · have h1 := hk hi2 (nI (qLf o G n i) - nI (qLf o G n i), nI (i + 1), qPw u 246 (upd (qUp o (qMn o G n) i (u 246)) (o i) (nI (qLf o G n i)))) (by
      rw [pk_sub (by omega)]
      show (_, _, _) = (nI (qLf o G n i - G (o i)), _, qPw u 246 (upd (qUp o (qMn o G n) i (u 246)) (o i) (qMn o G n i)))
      rw [show qMn o G n i = nI (qLf o G n i) by unfold qMn; rw [if_neg c], show qLf o G n i - G (o i) = qLf o G n i - qLf o G n i by omega])
    simp (disch := (first | omega | (simp (disch := omega) only [zu1, zu2, zu3, nIi, c0, qPw_n, qPw_e, qPw_uu, qu_eq, hy1, hy2]; omega))) only [if_true, if_false, zE10, zE00, zOkN, Nat.reduceAdd, Nat.reduceMul, zcl_s, zif01, zbn_e, nIi, nI_clamp, nI_add, nI_1, pk_mul, zgi, zlt, zle, Int32.zero_add, Int32.add_zero, C0, C1, G0, G1, Nat.zero_add, Nat.add_zero, l2, l3, l4, l5, l6, l7, l8, l10, l11, l12, l20, l30, l48, l50, l60, l100, l120, l140, l152, l164, l176, l188, l200, l212, l224, l1604, l1880, l2000, l2008, l2016, l2024, l2032, l2040, l2048, l2210, l2240, l2270, l2300, l2330, l2390, l2450, l2510, l2570, l2590, l2620, l2650, l2660, l2700, T0, T1, Tm1, Tm99, Tm999, p_within, p_in, p_isCell, p_isOwner, p_isDay11, p_isDay12, p_isTap11, p_isTaker11, if_pos, if_neg, p_isTap12, p_isTaker12, p_isGone, zu1, zu2, zu3, nIe, Nat.reduceSub, c0, qPw_n, qPw_e, qPw_uu, qu_eq, hy1, hy2]
    exact h1
end QWt
