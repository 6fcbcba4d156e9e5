/-- an order's day, its key -/
def qFr0 (w : zWd) (a : Nat) : Nat := (w 232 (240 + a)).toInt.toNat
def qKy (w : zWd) (a : Nat) : Nat := 100 * qFr0 w a + a
theorem s_key {n : Nat} {w : zWd} (h : qInv n w) (d : Int32) {V S : Nat} (hV : V ≤ 40100) (hS : S ≤ 10) (o1 : w 14 0 = nI S) (o2 : w 232 2 = nI S) {u : zWd} (hu : qRc w u) : ∃ r, mX3_keyBelow 14 (nI V) d u = some (r, u) ∧ ((r = -1 ∧ ∀ a, a < S → (qFr0 w a : Int) ≤ d.toInt → ¬ qKy w a < V) ∨ ∃ a, a < S ∧ (qFr0 w a : Int) ≤ d.toInt ∧ qKy w a < V ∧ r = nI (qKy w a) ∧ ∀ a', a' < S → (qFr0 w a' : Int) ≤ d.toInt → qKy w a' < V → qKy w a' ≤ qKy w a) := by
  have o1 : u 14 0 = nI S := by rw [hu 14 (by omega) (by omega)]; exact o1
  unfold mX3_keyBelow mX3_keyBelow_5
  refine zlp_R (R := fun X => ∃ r, X = some (r, u) ∧ ((r = -1 ∧ ∀ a, a < S → (qFr0 w a : Int) ≤ d.toInt → ¬ qKy w a < V) ∨ ∃ a, a < S ∧ (qFr0 w a : Int) ≤ d.toInt ∧ qKy w a < V ∧ r = nI (qKy w a) ∧ ∀ a', a' < S → (qFr0 w a' : Int) ≤ d.toInt → qKy w a' < V → qKy w a' ≤ qKy w a))
    (P := fun i q => ∃ r, q = (r, nI i, u) ∧ ((r = -1 ∧ ∀ a, a < i → (qFr0 w a : Int) ≤ d.toInt → ¬ qKy w a < V) ∨ ∃ a, a < i ∧ (qFr0 w a : Int) ≤ d.toInt ∧ qKy w a < V ∧ r = nI (qKy w a) ∧ ∀ a', a' < i → (qFr0 w a' : Int) ≤ d.toInt → qKy w a' < V → qKy w a' ≤ qKy w a)) (n := S) (by unfold zFU; omega) ?_ ⟨-1, rfl, Or.inl ⟨rfl, fun a ha => by omega⟩⟩
  rintro i hi q ⟨r, rfl, hr⟩ K5 hK5
  simp only [mX3_keyBelow_5b, mX3_keyBelow_61]
  by_cases e : i = S
  · subst e
    simp (disch := (first | omega | (simp (disch := omega) only [zu1, zu2, zu3, nIi, o1]; omega))) only [if_true, if_false, zE10, zE00, zOkN, Nat.reduceAdd, Nat.reduceMul, zcl_s, zif01, zbn_e, nIi, nI_clamp, nI_add, nI_1, pk_mul, zgi, zlt, zle, Int32.zero_add, Int32.add_zero, C0, C1, G0, G1, Nat.zero_add, Nat.add_zero, l2, l3, l4, l5, l6, l7, l8, l10, l11, l12, l20, l30, l48, l50, l60, l100, l120, l140, l152, l164, l176, l188, l200, l212, l224, l1604, l1880, l2000, l2008, l2016, l2024, l2032, l2040, l2048, l2210, l2240, l2270, l2300, l2330, l2390, l2450, l2510, l2570, l2590, l2620, l2650, l2660, l2700, T0, T1, Tm1, Tm99, Tm999, p_within, p_in, p_isCell, p_isOwner, p_isDay11, p_isDay12, p_isTap11, p_isTaker11, if_pos, if_neg, p_isTap12, p_isTaker12, p_isGone, zu1, zu2, zu3, nIe, Nat.reduceSub, o1]
    exact ⟨r, rfl, hr⟩
  have hiS : i < S := by omega
  obtain ⟨F, K, m, hF, hK, f1, f2, f3, f4, htx, hcl⟩ := q_ord h hS o2 hiS
  have eF : qFr0 w i = F := by unfold qFr0; rw [f3, nIi (by omega)]; rfl
  have eK : qKy w i = 100 * F + i := by unfold qKy; rw [eF]
  have e16 : u (14 + 1 + 1 + 6 * i) 0 = nI F := by rw [show 14 + 1 + 1 + 6 * i = 16 + 6 * i by omega, hu (16 + 6 * i) (by omega) (by omega)]; exact f1
  have stay : ¬ ((F : Int) ≤ d.toInt ∧ qKy w i < V ∧ r.toInt < qKy w i) → ∃ r_1, K5 (r, nI (i + 1), u) = some (r_1, u) ∧ ((r_1 = -1 ∧ ∀ a, a < S → (qFr0 w a : Int) ≤ d.toInt → ¬ qKy w a < V) ∨ ∃ a, a < S ∧ (qFr0 w a : Int) ≤ d.toInt ∧ qKy w a < V ∧ r_1 = nI (qKy w a) ∧ ∀ a', a' < S → (qFr0 w a' : Int) ≤ d.toInt → qKy w a' < V → qKy w a' ≤ qKy w a) := by
    intro c
    refine hK5 hiS _ ⟨r, rfl, ?_⟩
    rcases hr with ⟨h1, h2⟩ | ⟨a, h1, h2, h3, h4, h5⟩
    · refine Or.inl ⟨h1, fun a ha hd hk => ?_⟩
      by_cases ea : a = i
      · subst ea
        rw [eF] at hd
        exact c ⟨hd, hk, by rw [h1, Tm1]; omega⟩
      · exact h2 a (by omega) hd hk
    · refine Or.inr ⟨a, by omega, h2, h3, h4, fun a' ha' hd hk => ?_⟩
      by_cases ea : a' = i
      · subst ea
        rw [eF] at hd
        have h6 : ¬ r.toInt < qKy w a' := fun q => c ⟨hd, hk, q⟩
        rw [h4, nIi (by omega)] at h6
        omega
      · exact h5 a' (by omega) hd hk
  have r0 : r.toInt = -1 ∨ ∃ a, a < i ∧ r.toInt = qKy w a ∧ qKy w a < V := by
    rcases hr with ⟨h1, _⟩ | ⟨a, h1, h2, h3, h4, h5⟩
    · exact Or.inl (by rw [h1, Tm1])
    · exact Or.inr ⟨a, h1, by rw [h4, nIi (by omega)], h3⟩
  rw [eK] at stay
  by_cases c1 : (F : Int) ≤ d.toInt
  rotate_left
  · simp (disch := (first | omega | (simp (disch := omega) only [zu1, zu2, zu3, nIi, o1, show (100 : Int32) = nI 100 from rfl, l11, show 16 + 6 * i = 14 + 1 + 1 + 6 * i by omega, e16]; omega))) only [if_true, if_false, zE10, zE00, zOkN, Nat.reduceAdd, Nat.reduceMul, zcl_s, zif01, zbn_e, nIi, nI_clamp, nI_add, nI_1, pk_mul, zgi, zlt, zle, Int32.zero_add, Int32.add_zero, C0, C1, G0, G1, Nat.zero_add, Nat.add_zero, l2, l3, l4, l5, l6, l7, l8, l10, l11, l12, l20, l30, l48, l50, l60, l100, l120, l140, l152, l164, l176, l188, l200, l212, l224, l1604, l1880, l2000, l2008, l2016, l2024, l2032, l2040, l2048, l2210, l2240, l2270, l2300, l2330, l2390, l2450, l2510, l2570, l2590, l2620, l2650, l2660, l2700, T0, T1, Tm1, Tm99, Tm999, p_within, p_in, p_isCell, p_isOwner, p_isDay11, p_isDay12, p_isTap11, p_isTaker11, if_pos, if_neg, p_isTap12, p_isTaker12, p_isGone, zu1, zu2, zu3, nIe, Nat.reduceSub, o1, show (100 : Int32) = nI 100 from rfl, l11, show 16 + 6 * i = 14 + 1 + 1 + 6 * i by omega, e16]
    exact stay (fun q => c1 q.1)
  by_cases c2 : 100 * F + i < V
  rotate_left
  · simp (disch := (first | omega | (simp (disch := omega) only [zu1, zu2, zu3, nIi, o1, show (100 : Int32) = nI 100 from rfl, l11, show 16 + 6 * i = 14 + 1 + 1 + 6 * i by omega, e16, show F * 100 + i = 100 * F + i by omega]; omega))) only [if_true, if_false, zE10, zE00, zOkN, Nat.reduceAdd, Nat.reduceMul, zcl_s, zif01, zbn_e, nIi, nI_clamp, nI_add, nI_1, pk_mul, zgi, zlt, zle, Int32.zero_add, Int32.add_zero, C0, C1, G0, G1, Nat.zero_add, Nat.add_zero, l2, l3, l4, l5, l6, l7, l8, l10, l11, l12, l20, l30, l48, l50, l60, l100, l120, l140, l152, l164, l176, l188, l200, l212, l224, l1604, l1880, l2000, l2008, l2016, l2024, l2032, l2040, l2048, l2210, l2240, l2270, l2300, l2330, l2390, l2450, l2510, l2570, l2590, l2620, l2650, l2660, l2700, T0, T1, Tm1, Tm99, Tm999, p_within, p_in, p_isCell, p_isOwner, p_isDay11, p_isDay12, p_isTap11, p_isTaker11, if_pos, if_neg, p_isTap12, p_isTaker12, p_isGone, zu1, zu2, zu3, nIe, Nat.reduceSub, o1, show (100 : Int32) = nI 100 from rfl, l11, show 16 + 6 * i = 14 + 1 + 1 + 6 * i by omega, e16, show F * 100 + i = 100 * F + i by omega]
    exact stay (fun q => c2 q.2.1)
  by_cases c3 : r.toInt < 100 * F + i
  rotate_left
  · simp (disch := (first | omega | (simp (disch := omega) only [zu1, zu2, zu3, nIi, o1, show (100 : Int32) = nI 100 from rfl, l11, show 16 + 6 * i = 14 + 1 + 1 + 6 * i by omega, e16, show F * 100 + i = 100 * F + i by omega]; omega))) only [if_true, if_false, zE10, zE00, zOkN, Nat.reduceAdd, Nat.reduceMul, zcl_s, zif01, zbn_e, nIi, nI_clamp, nI_add, nI_1, pk_mul, zgi, zlt, zle, Int32.zero_add, Int32.add_zero, C0, C1, G0, G1, Nat.zero_add, Nat.add_zero, l2, l3, l4, l5, l6, l7, l8, l10, l11, l12, l20, l30, l48, l50, l60, l100, l120, l140, l152, l164, l176, l188, l200, l212, l224, l1604, l1880, l2000, l2008, l2016, l2024, l2032, l2040, l2048, l2210, l2240, l2270, l2300, l2330, l2390, l2450, l2510, l2570, l2590, l2620, l2650, l2660, l2700, T0, T1, Tm1, Tm99, Tm999, p_within, p_in, p_isCell, p_isOwner, p_isDay11, p_isDay12, p_isTap11, p_isTaker11, if_pos, if_neg, p_isTap12, p_isTaker12, p_isGone, zu1, zu2, zu3, nIe, Nat.reduceSub, o1, show (100 : Int32) = nI 100 from rfl, l11, show 16 + 6 * i = 14 + 1 + 1 + 6 * i by omega, e16, show F * 100 + i = 100 * F + i by omega]
    exact stay (fun q => c3 (by omega))
  · simp (disch := (first | omega | (simp (disch := omega) only [zu1, zu2, zu3, nIi, o1, show (100 : Int32) = nI 100 from rfl, l11, show 16 + 6 * i = 14 + 1 + 1 + 6 * i by omega, e16, show F * 100 + i = 100 * F + i by omega]; omega))) only [if_true, if_false, zE10, zE00, zOkN, Nat.reduceAdd, Nat.reduceMul, zcl_s, zif01, zbn_e, nIi, nI_clamp, nI_add, nI_1, pk_mul, zgi, zlt, zle, Int32.zero_add, Int32.add_zero, C0, C1, G0, G1, Nat.zero_add, Nat.add_zero, l2, l3, l4, l5, l6, l7, l8, l10, l11, l12, l20, l30, l48, l50, l60, l100, l120, l140, l152, l164, l176, l188, l200, l212, l224, l1604, l1880, l2000, l2008, l2016, l2024, l2032, l2040, l2048, l2210, l2240, l2270, l2300, l2330, l2390, l2450, l2510, l2570, l2590, l2620, l2650, l2660, l2700, T0, T1, Tm1, Tm99, Tm999, p_within, p_in, p_isCell, p_isOwner, p_isDay11, p_isDay12, p_isTap11, p_isTaker11, if_pos, if_neg, p_isTap12, p_isTaker12, p_isGone, zu1, zu2, zu3, nIe, Nat.reduceSub, o1, show (100 : Int32) = nI 100 from rfl, l11, show 16 + 6 * i = 14 + 1 + 1 + 6 * i by omega, e16, show F * 100 + i = 100 * F + i by omega]
    refine hK5 hiS _ ⟨nI (100 * F + i), rfl, Or.inr ⟨i, by omega, by rw [eF]; exact c1, by rw [eK]; exact c2, by rw [eK], fun a' ha' hd hk => ?_⟩⟩
    rw [eK]
    by_cases ea : a' = i
    · subst ea; rw [eK]; exact Nat.le_refl _
    · rcases hr with ⟨h1, h2⟩ | ⟨a, h1, h2, h3, h4, h5⟩
      · exact absurd hk (h2 a' (by omega) hd)
      · have := h5 a' (by omega) hd hk
        rw [h4, nIi (by omega)] at c3
        omega
/-- how many of the first k -/
def qCt (p : Nat → Bool) : Nat → Nat
  | 0 => 0
  | k + 1 => qCt p k + (if p k then 1 else 0)
theorem qCt_le (p : Nat → Bool) : ∀ k, qCt p k ≤ k
  | 0 => Nat.le_refl 0
  | k + 1 => by
    have := qCt_le p k
    unfold qCt
    by_cases h : p k = true
    · rw [if_pos h]; omega
    · rw [if_neg h]; omega
theorem qCt_mono {p q : Nat → Bool} : ∀ k, (∀ a, a < k → p a = true → q a = true) → qCt p k ≤ qCt q k
  | 0, _ => Nat.le_refl 0
  | k + 1, h => by
    have h1 := qCt_mono k (fun a ha => h a (by omega))
    unfold qCt
    by_cases hp : p k = true
    · rw [if_pos hp, if_pos (h k (by omega) hp)]; omega
    · rw [if_neg hp]; omega
theorem qCt_lt {p q : Nat → Bool} {a0 : Nat} (hq : q a0 = true) (hp : p a0 = false) : ∀ k, a0 < k → (∀ a, a < k → p a = true → q a = true) → qCt p k + 1 ≤ qCt q k
  | 0, h0, _ => by omega
  | k + 1, h0, h => by
    unfold qCt
    by_cases e : a0 = k
    · subst e
      have := qCt_mono (p := p) (q := q) a0 (fun a ha => h a (by omega))
      rw [if_pos hq, hp]
      simp only [Bool.false_eq_true, if_false]
      omega
    · have := qCt_lt hq hp k (by omega) (fun a ha => h a (by omega))
      by_cases hp2 : p k = true
      · rw [if_pos hp2, if_pos (h k (by omega) hp2)]; omega
      · rw [if_neg hp2]; omega
theorem s_ruling11 {n : Nat} {w : zWd} (h : qInv n w) (N d : Int32) (t : Nat) (T : Int32) (hN : N = 0 → t < 8 ∧ T = nI t) {u : zWd} (hu : qRc w u) : ∃ r, mX3_ruling 14 N 82 T d u = some (r, u) ∧ ((r = -5 ∧ ∀ a k, ¬ qCd w N t d a k) ∨ ∃ a k, a < 10 ∧ k < 8 ∧ qBs w (qCd w N t d) (fun _ _ => True) a k ∧ r = nI (100 * a + k)) := by
  obtain ⟨S, hS, o1, o2⟩ := q_orders h
  have e2 : (w 232 2).toInt = S := by rw [o2, nIi (by omega)]
  have fr : ∀ a, a < S → (w 232 (240 + a)).toInt = qFr0 w a ∧ qFr0 w a ≤ 400 := by
    intro a ha
    obtain ⟨F, K, m, hF, hK, f1, f2, f3, f4, htx, hcl⟩ := q_ord h hS o2 ha
    unfold qFr0
    rw [f3, nIi (by omega)]
    exact ⟨by omega, by omega⟩
  have cS : ∀ a k, qCd w N t d a k → a < S ∧ (qFr0 w a : Int) ≤ d.toInt := fun a k c => by
    have h1 := c.1
    rw [e2] at h1
    exact ⟨by omega, by rw [← (fr a (by omega)).1]; exact c.2.2.1⟩
  have o1w := o1
  have o1 : u 14 0 = nI S := by rw [hu 14 (by omega) (by omega)]; exact o1
  unfold mX3_ruling mX3_ruling_7
  refine zlp_R (R := fun X => ∃ r, X = some (r, u) ∧ ((r = -5 ∧ ∀ a k, ¬ qCd w N t d a k) ∨ ∃ a k, a < 10 ∧ k < 8 ∧ qBs w (qCd w N t d) (fun _ _ => True) a k ∧ r = nI (100 * a + k)))
    (P := fun j q => ∃ V, q = (nI V, nI j, u) ∧ V ≤ 40100 ∧ j ≤ qCt (fun a => decide (V ≤ qKy w a)) S ∧ ∀ a k, qCd w N t d a k → qKy w a < V) (n := S) (by unfold zFU; omega) ?_ ⟨40100, rfl, Nat.le_refl _, Nat.zero_le _, fun a k c => by have := fr a (cS a k c).1; have := (cS a k c).1; unfold qKy; omega⟩
  rintro j hj q ⟨V, rfl, hV, hc, hb⟩ K7 hK7
  simp only [mX3_ruling_7b]
  have nope : (∀ a k, ¬ qCd w N t d a k) → ∃ r, some ((-5 : Int32), u) = some (r, u) ∧ ((r = -5 ∧ ∀ a k, ¬ qCd w N t d a k) ∨ ∃ a k, a < 10 ∧ k < 8 ∧ qBs w (qCd w N t d) (fun _ _ => True) a k ∧ r = nI (100 * a + k)) := fun c => ⟨-5, rfl, Or.inl ⟨rfl, c⟩⟩
  by_cases e : j = S
  · subst e
    rw [o1, if_pos (nI_le (Nat.le_refl _) (by omega))]
    refine nope (fun a k c => ?_)
    have h1 := qCt_lt (p := fun a => decide (V ≤ qKy w a)) (q := fun _ => true) (a0 := a) rfl (by simp only [decide_eq_false_iff_not]; have := hb a k c; omega) j (cS a k c).1 (fun _ _ _ => rfl)
    have h2 := qCt_le (fun _ => true) j
    omega
  rw [o1, if_neg (nI_ge (by omega) (by omega))]
  obtain ⟨r, g1, g2⟩ := s_key h d hV hS o1w o2 hu
  rw [g1, zcl_s]
  rcases g2 with ⟨rfl, g2⟩ | ⟨a, ha, hd, hk, rfl, hmax⟩
  · rw [if_neg (show ¬ (0 : Int32) ≤ -1 by decide)]
    exact nope (fun a k c => g2 a (cS a k c).1 (cS a k c).2 (hb a k c))
  have fa := fr a ha
  have hky : qKy w a = 100 * qFr0 w a + a := rfl
  have em : nI (qKy w a) - nI (qKy w a) / 100 * 100 = nI a := by
    rw [show (100 : Int32) = nI 100 from rfl, pk_rem (by omega) (by decide) (by decide)]
    congr 1; omega
  rw [if_pos (show (0 : Int32) ≤ nI (qKy w a) from nI_pos' (by omega)), em, zgd_t (show zin (nI a) 11 from vp_in_nI (by omega) (by decide)), nI_clamp (show a < 2 ^ 31 by omega), show 14 + 1 + 1 + 6 * a = 16 + 6 * a by omega]
  obtain ⟨r, j1, j2⟩ := s_last h N t T hN hS o2 ha hu
  rw [j1, zcl_s]
  have mt : ∀ k : Nat, (k : Int) < (w 232 (1600 + a)).toInt → (qMt w N t a k ↔ qCd w N t d a k) := fun k hk => ⟨fun c => ⟨by rw [e2]; omega, hk, by rw [fa.1]; exact hd, c.1, c.2⟩, fun c => ⟨c.2.2.2.1, c.2.2.2.2⟩⟩
  rcases j2 with ⟨rfl, j2⟩ | ⟨k, k1, k2, k3, k4, rfl⟩
  · rw [if_pos (show (-1 : Int32) < 0 by decide)]
    refine hK7 (by omega) _ ⟨qKy w a, by rw [nI_succ], by omega, ?_, fun a' k' c => ?_⟩
    · refine Nat.le_trans (Nat.succ_le_succ hc) (qCt_lt (a0 := a) (by simp) (by simp only [decide_eq_false_iff_not]; omega) S ha (fun a' _ hp => ?_))
      simp only [decide_eq_true_eq] at hp ⊢
      omega
    · have h1 := hmax a' (cS a' k' c).1 (cS a' k' c).2 (hb a' k' c)
      by_cases ea : a' = a
      · subst ea
        exact absurd ((mt k' c.2.1).mpr c) (j2 k' c.2.1)
      · have h3 := (cS a' k' c).1
        have : qKy w a' = 100 * qFr0 w a' + a' := rfl
        omega
  · rw [if_neg (by rw [zlt, nIi (by omega), T0]; omega)]
    refine ⟨nI (100 * a + k), ?_, Or.inr ⟨a, k, by omega, k1, ⟨trivial, (mt k k2).mp k3, fun a' k' _ c => ?_⟩, rfl⟩⟩
    · rw [show (100 : Int32) = nI 100 from rfl, pk_mul, nI_add, Nat.mul_comm]
    · have h1 := hmax a' (cS a' k' c).1 (cS a' k' c).2 (hb a' k' c)
      have h3 := (cS a' k' c).1
      have h4 := (fr a' h3).1
      have : qKy w a' = 100 * qFr0 w a' + a' := rfl
      rw [h4, fa.1]
      by_cases ea : a' = a
      · subst ea
        exact Or.inr ⟨rfl, Or.inr ⟨rfl, k4 k' c.2.1 ((mt k' c.2.1).mpr c)⟩⟩
      · omega
