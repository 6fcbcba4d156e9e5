theorem s_explains12 {u : zWd} {N T : Nat} {B cl : Nat → Nat} {tn : Nat → Int32} (hN : N ≤ 8) (hT : T ≤ 12) (hB : ∀ c, c < N → B c < T) (hc : ∀ t, t < T → cl t < 30) (e : u 232 1 = nI T) (b1 : ∀ c, c < N → u 247 c = nI (B c)) (b2 : ∀ t, t < T → u 232 (152 + t) = nI (cl t)) (b3 : ∀ t, t < T → u 232 (164 + t) = tn t) (d : Int32) (b : Nat) : mX12_explains 231 (nI b) (nI N) d u = some (if ∀ t, t < T → ¬ u 232 (2570 + t) = -1 → (qAb (qBu (qSh B cl tn t) (nI b) N - u 232 (2570 + t))).toInt ≤ d.toInt then 1 else 0, u) := by
  have i10 : ((1 : Int32) = 0) = False := by simp
  have inner : ∀ (k6 : Int32 × Int32 × zWd → Option (Int32 × zWd)) (v4 : Int32) (t : Nat), t < T → mX12_explains_38 k6 231 (nI b) (nI N) d v4 (nI t) 0 0 u = if v4 = 0 then k6 (0, nI (t + 1), u) else if d.toInt < (qAb (qBu (qSh B cl tn t) (nI b) N - u 232 (2570 + t))).toInt then k6 (0, nI (t + 1), u) else k6 (1, nI (t + 1), u) := by
    intro k6 v4 t ht
    unfold mX12_explains_38
    refine zlp_to (P := fun (c : Nat) (q : Int32 × Int32 × zWd) => q = (qBu (qSh B cl tn t) (nI b) c, nI c, u)) (n := N) (by unfold zFU; omega) ?_ rfl
    rintro c hcN q rfl k hk
    simp only [mX12_explains_38b, mX12_explains_172, mX12_explains_173, mX12_explains_175]
    by_cases ec : c = N
    · subst ec
      simp (disch := (first | omega | (simp (disch := omega) only [zu1, zu2, zu3, nIi, p_size]; omega))) only [if_true, if_false, zE10, zE00, zOkN, Nat.reduceAdd, Nat.reduceMul, zcl_s, zif01, zbn_e, nIi, nI_clamp, nI_add, nI_1, pk_mul, zgi, zlt, zle, Int32.zero_add, Int32.add_zero, C0, C1, G0, G1, Nat.zero_add, Nat.add_zero, l2, l3, l4, l5, l6, l7, l8, l10, l11, l12, l20, l30, l48, l50, l60, l100, l120, l140, l152, l164, l176, l188, l200, l212, l224, l1604, l1880, l2000, l2008, l2016, l2024, l2032, l2040, l2048, l2210, l2240, l2270, l2300, l2330, l2390, l2450, l2510, l2570, l2590, l2620, l2650, l2660, l2700, T0, T1, Tm1, Tm99, Tm999, p_within, p_in, p_isCell, p_isOwner, p_isDay11, p_isDay12, p_isTap11, p_isTaker11, if_pos, if_neg, p_isTap12, p_isTaker12, p_isGone, zu1, zu2, zu3, nIe, Nat.reduceSub, p_size]
    have hc2 : c < N := by omega
    have hk' := hk hc2 _ rfl
    have v1 := b1 c hc2
    have hBc := hB c hc2
    have v2 := b2 t ht
    have v3 := b2 _ hBc
    have v4' := b3 _ hBc
    have sk : mX12_explains_70 k6 k 231 (nI b) (nI N) d v4 (nI t) (qBu (qSh B cl tn t) (nI b) c) (nI c) u = k (qBu (qSh B cl tn t) (nI b) c, nI (c + 1), u) := by
      unfold mX12_explains_70 mX12_explains_71 mX12_explains_133
      rw [if_pos rfl, zbn_e, Int32.add_zero, nI_succ]
    rw [if_neg (show ¬ nI N ≤ nI c from nI_ge hc2 (by omega))]
    show (if qBit (nI b) c = 1 then _ else _) = _
    rcases qBit01 (nI b) (t := c) (by omega) with z | z
    · have es : qBu (qSh B cl tn t) (nI b) (c + 1) = qBu (qSh B cl tn t) (nI b) c := if_neg (by rw [z]; decide)
      rw [es] at hk'
      rw [if_neg (by rw [z]; decide), sk]
      exact hk'
    · have es : qBu (qSh B cl tn t) (nI b) (c + 1) = qBu (qSh B cl tn t) (nI b) c + qSh B cl tn t c := if_pos z
      rw [es] at hk'
      rw [if_pos z]
      by_cases ce : B c = t
      · have e0 : qSh B cl tn t c = 0 := if_pos ce
        rw [e0, Int32.add_zero] at hk'
        simp (disch := (first | omega | (simp (disch := omega) only [zu1, zu2, zu3, nIi, v1, ce, sk]; omega))) only [if_true, if_false, zE10, zE00, zOkN, Nat.reduceAdd, Nat.reduceMul, zcl_s, zif01, zbn_e, nIi, nI_clamp, nI_add, nI_1, pk_mul, zgi, zlt, zle, Int32.zero_add, Int32.add_zero, C0, C1, G0, G1, Nat.zero_add, Nat.add_zero, l2, l3, l4, l5, l6, l7, l8, l10, l11, l12, l20, l30, l48, l50, l60, l100, l120, l140, l152, l164, l176, l188, l200, l212, l224, l1604, l1880, l2000, l2008, l2016, l2024, l2032, l2040, l2048, l2210, l2240, l2270, l2300, l2330, l2390, l2450, l2510, l2570, l2590, l2620, l2650, l2660, l2700, T0, T1, Tm1, Tm99, Tm999, p_within, p_in, p_isCell, p_isOwner, p_isDay11, p_isDay12, p_isTap11, p_isTaker11, if_pos, if_neg, p_isTap12, p_isTaker12, p_isGone, zu1, zu2, zu3, nIe, Nat.reduceSub, v1, ce, sk]
        exact hk'
      · obtain ⟨dd, d1, d2⟩ := qDs_n (hc _ hBc) (hc t ht)
        have e0 : qSh B cl tn t c = tn (B c) / nI (dd + 1) := by
          unfold qSh; rw [if_neg ce, (qDs_30 _ (hc t ht) _ (hc _ hBc)).2.2, d2, nI_1]
        rw [e0] at hk'
        have n0 : ¬ (nI (dd + 1) : Int32) = 0 := fun q => by rw [show (0 : Int32) = nI 0 from rfl, nIe (by omega) (by omega)] at q; omega
        unfold mX12_explains_71 mX12_explains_133
        simp (disch := (first | omega | (simp (disch := omega) only [zu1, zu2, zu3, nIi, v1, ce, v2, v3, v4', p_apart, d2, zgd_t n0, i10]; omega))) only [if_true, if_false, zE10, zE00, zOkN, Nat.reduceAdd, Nat.reduceMul, zcl_s, zif01, zbn_e, nIi, nI_clamp, nI_add, nI_1, pk_mul, zgi, zlt, zle, Int32.zero_add, Int32.add_zero, C0, C1, G0, G1, Nat.zero_add, Nat.add_zero, l2, l3, l4, l5, l6, l7, l8, l10, l11, l12, l20, l30, l48, l50, l60, l100, l120, l140, l152, l164, l176, l188, l200, l212, l224, l1604, l1880, l2000, l2008, l2016, l2024, l2032, l2040, l2048, l2210, l2240, l2270, l2300, l2330, l2390, l2450, l2510, l2570, l2590, l2620, l2650, l2660, l2700, T0, T1, Tm1, Tm99, Tm999, p_within, p_in, p_isCell, p_isOwner, p_isDay11, p_isDay12, p_isTap11, p_isTaker11, if_pos, if_neg, p_isTap12, p_isTaker12, p_isGone, zu1, zu2, zu3, nIe, Nat.reduceSub, v1, ce, v2, v3, v4', p_apart, d2, zgd_t n0, i10]
        exact hk'
  unfold mX12_explains mX12_explains_6
  refine zlp_to (P := fun (t : Nat) (q : Int32 × Int32 × zWd) => q = (if ∀ t', t' < t → ¬ u 232 (2570 + t') = -1 → (qAb (qBu (qSh B cl tn t') (nI b) N - u 232 (2570 + t'))).toInt ≤ d.toInt then 1 else 0, nI t, u)) (n := T) (by unfold zFU; omega) ?_ (by rw [if_pos (fun t' ht' => absurd ht' (by omega))]; rfl)
  rintro t ht q rfl k hk
  simp only [mX12_explains_6b, mX12_explains_175]
  by_cases et : t = T
  · subst et
    simp (disch := (first | omega | (simp (disch := omega) only [zu1, zu2, zu3, nIi, e, zgd_t (zBif _)]; omega))) only [if_true, if_false, zE10, zE00, zOkN, Nat.reduceAdd, Nat.reduceMul, zcl_s, zif01, zbn_e, nIi, nI_clamp, nI_add, nI_1, pk_mul, zgi, zlt, zle, Int32.zero_add, Int32.add_zero, C0, C1, G0, G1, Nat.zero_add, Nat.add_zero, l2, l3, l4, l5, l6, l7, l8, l10, l11, l12, l20, l30, l48, l50, l60, l100, l120, l140, l152, l164, l176, l188, l200, l212, l224, l1604, l1880, l2000, l2008, l2016, l2024, l2032, l2040, l2048, l2210, l2240, l2270, l2300, l2330, l2390, l2450, l2510, l2570, l2590, l2620, l2650, l2660, l2700, T0, T1, Tm1, Tm99, Tm999, p_within, p_in, p_isCell, p_isOwner, p_isDay11, p_isDay12, p_isTap11, p_isTaker11, if_pos, if_neg, p_isTap12, p_isTaker12, p_isGone, zu1, zu2, zu3, nIe, Nat.reduceSub, e, zgd_t (zBif _)]
  have hk' := hk (by omega) _ rfl
  have step : (∀ t', t' < t + 1 → ¬ u 232 (2570 + t') = -1 → (qAb (qBu (qSh B cl tn t') (nI b) N - u 232 (2570 + t'))).toInt ≤ d.toInt) ↔ (∀ t', t' < t → ¬ u 232 (2570 + t') = -1 → (qAb (qBu (qSh B cl tn t') (nI b) N - u 232 (2570 + t'))).toInt ≤ d.toInt) ∧ (¬ u 232 (2570 + t) = -1 → (qAb (qBu (qSh B cl tn t) (nI b) N - u 232 (2570 + t))).toInt ≤ d.toInt) := by
    refine ⟨fun q => ⟨fun t' h => q t' (by omega), q t (by omega)⟩, fun q t' h => ?_⟩
    by_cases ett : t' = t
    · rw [ett]; exact q.2
    · exact q.1 t' (by omega)
  by_cases hm : u 232 (2570 + t) = -1
  · have e1 : (if ∀ t', t' < t + 1 → ¬ u 232 (2570 + t') = -1 → (qAb (qBu (qSh B cl tn t') (nI b) N - u 232 (2570 + t'))).toInt ≤ d.toInt then (1 : Int32) else 0) = if ∀ t', t' < t → ¬ u 232 (2570 + t') = -1 → (qAb (qBu (qSh B cl tn t') (nI b) N - u 232 (2570 + t'))).toInt ≤ d.toInt then 1 else 0 := by
      by_cases q : ∀ t', t' < t → ¬ u 232 (2570 + t') = -1 → (qAb (qBu (qSh B cl tn t') (nI b) N - u 232 (2570 + t'))).toInt ≤ d.toInt
      · rw [if_pos q, if_pos (step.mpr ⟨q, fun z => absurd hm z⟩)]
      · rw [if_neg q, if_neg (fun z => q (step.mp z).1)]
    rw [e1] at hk'
    simp (disch := (first | omega | (simp (disch := omega) only [zu1, zu2, zu3, nIi, e, hm]; omega))) only [if_true, if_false, zE10, zE00, zOkN, Nat.reduceAdd, Nat.reduceMul, zcl_s, zif01, zbn_e, nIi, nI_clamp, nI_add, nI_1, pk_mul, zgi, zlt, zle, Int32.zero_add, Int32.add_zero, C0, C1, G0, G1, Nat.zero_add, Nat.add_zero, l2, l3, l4, l5, l6, l7, l8, l10, l11, l12, l20, l30, l48, l50, l60, l100, l120, l140, l152, l164, l176, l188, l200, l212, l224, l1604, l1880, l2000, l2008, l2016, l2024, l2032, l2040, l2048, l2210, l2240, l2270, l2300, l2330, l2390, l2450, l2510, l2570, l2590, l2620, l2650, l2660, l2700, T0, T1, Tm1, Tm99, Tm999, p_within, p_in, p_isCell, p_isOwner, p_isDay11, p_isDay12, p_isTap11, p_isTaker11, if_pos, if_neg, p_isTap12, p_isTaker12, p_isGone, zu1, zu2, zu3, nIe, Nat.reduceSub, e, hm]
    exact hk'
  · by_cases q : ∀ t', t' < t → ¬ u 232 (2570 + t') = -1 → (qAb (qBu (qSh B cl tn t') (nI b) N - u 232 (2570 + t'))).toInt ≤ d.toInt
    · have hin := inner k 1 t (by omega)
      rw [if_pos q]
      rw [if_neg (show ¬ (1 : Int32) = 0 by decide)] at hin
      by_cases g : d.toInt < (qAb (qBu (qSh B cl tn t) (nI b) N - u 232 (2570 + t))).toInt
      · rw [if_pos g] at hin
        rw [if_neg (fun z => by have := (step.mp z).2 hm; omega)] at hk'
        simp (disch := (first | omega | (simp (disch := omega) only [zu1, zu2, zu3, nIi, e, hm, hin]; omega))) only [if_true, if_false, zE10, zE00, zOkN, Nat.reduceAdd, Nat.reduceMul, zcl_s, zif01, zbn_e, nIi, nI_clamp, nI_add, nI_1, pk_mul, zgi, zlt, zle, Int32.zero_add, Int32.add_zero, C0, C1, G0, G1, Nat.zero_add, Nat.add_zero, l2, l3, l4, l5, l6, l7, l8, l10, l11, l12, l20, l30, l48, l50, l60, l100, l120, l140, l152, l164, l176, l188, l200, l212, l224, l1604, l1880, l2000, l2008, l2016, l2024, l2032, l2040, l2048, l2210, l2240, l2270, l2300, l2330, l2390, l2450, l2510, l2570, l2590, l2620, l2650, l2660, l2700, T0, T1, Tm1, Tm99, Tm999, p_within, p_in, p_isCell, p_isOwner, p_isDay11, p_isDay12, p_isTap11, p_isTaker11, if_pos, if_neg, p_isTap12, p_isTaker12, p_isGone, zu1, zu2, zu3, nIe, Nat.reduceSub, e, hm, hin]
        exact hk'
      · rw [if_neg g] at hin
        rw [if_pos (step.mpr ⟨q, fun _ => by omega⟩)] at hk'
        simp (disch := (first | omega | (simp (disch := omega) only [zu1, zu2, zu3, nIi, e, hm, hin]; omega))) only [if_true, if_false, zE10, zE00, zOkN, Nat.reduceAdd, Nat.reduceMul, zcl_s, zif01, zbn_e, nIi, nI_clamp, nI_add, nI_1, pk_mul, zgi, zlt, zle, Int32.zero_add, Int32.add_zero, C0, C1, G0, G1, Nat.zero_add, Nat.add_zero, l2, l3, l4, l5, l6, l7, l8, l10, l11, l12, l20, l30, l48, l50, l60, l100, l120, l140, l152, l164, l176, l188, l200, l212, l224, l1604, l1880, l2000, l2008, l2016, l2024, l2032, l2040, l2048, l2210, l2240, l2270, l2300, l2330, l2390, l2450, l2510, l2570, l2590, l2620, l2650, l2660, l2700, T0, T1, Tm1, Tm99, Tm999, p_within, p_in, p_isCell, p_isOwner, p_isDay11, p_isDay12, p_isTap11, p_isTaker11, if_pos, if_neg, p_isTap12, p_isTaker12, p_isGone, zu1, zu2, zu3, nIe, Nat.reduceSub, e, hm, hin]
        exact hk'
    · have hin := inner k 0 t (by omega)
      rw [if_neg q]
      rw [if_pos rfl] at hin
      rw [if_neg (fun z => q (step.mp z).1)] at hk'
      simp (disch := (first | omega | (simp (disch := omega) only [zu1, zu2, zu3, nIi, e, hm, hin]; omega))) only [if_true, if_false, zE10, zE00, zOkN, Nat.reduceAdd, Nat.reduceMul, zcl_s, zif01, zbn_e, nIi, nI_clamp, nI_add, nI_1, pk_mul, zgi, zlt, zle, Int32.zero_add, Int32.add_zero, C0, C1, G0, G1, Nat.zero_add, Nat.add_zero, l2, l3, l4, l5, l6, l7, l8, l10, l11, l12, l20, l30, l48, l50, l60, l100, l120, l140, l152, l164, l176, l188, l200, l212, l224, l1604, l1880, l2000, l2008, l2016, l2024, l2032, l2040, l2048, l2210, l2240, l2270, l2300, l2330, l2390, l2450, l2510, l2570, l2590, l2620, l2650, l2660, l2700, T0, T1, Tm1, Tm99, Tm999, p_within, p_in, p_isCell, p_isOwner, p_isDay11, p_isDay12, p_isTap11, p_isTaker11, if_pos, if_neg, p_isTap12, p_isTaker12, p_isGone, zu1, zu2, zu3, nIe, Nat.reduceSub, e, hm, hin]
      exact hk'
theorem s_causeL {u : zWd} {N : Nat} {E : Nat → Bool} (hN : N ≤ 8) (d what : Int32) (hE : ∀ b, b < 2 ^ N → mX12_explains 231 (nI b) (nI N) d u = some (if E b = true then 1 else 0, u)) : mX12_cause_77 231 d what (nI N) u = some (qFrv (qFw E (2 ^ N)) what, u) := by
  have h256 := pow_256 hN
  unfold mX12_cause_77 mX12_cause_87
  refine zlp_to (P := fun (b : Nat) (q : Int32 × Int32 × Int32 × zWd) => (qFw E b = none ∧ q = (-5, 0, nI b, u)) ∨ ∃ B m, qFw E b = some (B, m) ∧ q = (nI B, nI m, nI b, u)) (n := 2 ^ N) (by unfold zFU; omega) ?_ (Or.inl ⟨rfl, rfl⟩)
  rintro b hb q hq k hk
  have n5 : ∀ B, B < 256 → ¬ (nI B : Int32) = -5 := fun B hB q => absurd (congrArg Int32.toInt q) (by rw [nIi (by omega), show (-5 : Int32).toInt = -5 by decide]; omega)
  by_cases e : b = 2 ^ N
  · rcases hq with ⟨h1, rfl⟩ | ⟨B, m, h1, rfl⟩
    · simp only [mX12_cause_87b, mX12_cause_197, mX12_cause_204]
      rw [if_pos (show ((1 : Int32) <<< ((nI N) &&& 31)) ≤ nI b by rw [shl_pow N (by omega)]; exact nI_le (by omega) (by omega)), if_pos trivial, ← e, h1]
      rfl
    · obtain ⟨hB, hm⟩ := qFw_b b B m h1
      simp only [mX12_cause_87b, mX12_cause_197, mX12_cause_204]
      rw [if_pos (show ((1 : Int32) <<< ((nI N) &&& 31)) ≤ nI b by rw [shl_pow N (by omega)]; exact nI_le (by omega) (by omega)), if_neg (n5 B (by omega)), ← e, h1]
      unfold qFrv
      by_cases c : what = 0
      · simp only [if_pos c]
      · simp only [if_neg c]
  have hb2 : b < 2 ^ N := by omega
  have hex := hE b hb2
  have i10 : ¬ ((1 : Int32) = 0) := by decide
  have hk' := fun x hx => hk hb2 x hx
  have hcb := s_count1 (b := b) (by omega) u
  rcases hq with ⟨h1, rfl⟩ | ⟨B, m, h1, rfl⟩
  · simp only [mX12_cause_87b, mX12_cause_180, mX12_cause_126, mX12_cause_131, mX12_cause_164, mX12_cause_178]
    rw [if_neg (show ¬ ((1 : Int32) <<< ((nI N) &&& 31)) ≤ nI b by rw [shl_pow N (by omega)]; exact nI_ge hb2 (by omega)), hex, zcl_s]
    have est : qFw E (b + 1) = if E b = true then some (b, 1) else none := by
      conv => lhs; unfold qFw
      rw [h1]
    by_cases c : E b = true
    · rw [if_pos c, if_neg i10, if_pos trivial, if_neg i10, if_neg i10, ← nI_succ]
      exact hk' _ (Or.inr ⟨b, 1, by rw [est, if_pos c], rfl⟩)
    · rw [if_neg c, if_pos rfl, ← nI_succ]
      exact hk' _ (Or.inl ⟨by rw [est, if_neg c], rfl⟩)
  · obtain ⟨hB, hm⟩ := qFw_b b B m h1
    have hcB := s_count1 (b := B) (by omega) u
    simp only [mX12_cause_87b, mX12_cause_180, mX12_cause_126, mX12_cause_131, mX12_cause_164, mX12_cause_178]
    rw [if_neg (show ¬ ((1 : Int32) <<< ((nI N) &&& 31)) ≤ nI b by rw [shl_pow N (by omega)]; exact nI_ge hb2 (by omega)), hex, zcl_s]
    have est : qFw E (b + 1) = if E b = true then (if (qPc b).toInt < (qPc B).toInt then some (b, 1) else if qPc b = qPc B then some (B, m + 1) else some (B, m)) else some (B, m) := by
      conv => lhs; unfold qFw
      rw [h1]
    by_cases c : E b = true
    · rw [if_pos c, if_neg i10, if_neg (n5 B (by omega)), hcb, zcl_s, hcB, zcl_s]
      rw [if_pos c] at est
      by_cases c2 : qPc B ≤ qPc b
      · rw [if_pos c2, if_pos trivial, hcb, zcl_s, hcB, zcl_s]
        rw [zle] at c2
        by_cases c3 : qPc b = qPc B
        · rw [if_pos c3, if_pos trivial, ← nI_succ, ← nI_succ]
          exact hk' _ (Or.inr ⟨B, m + 1, by rw [est, if_neg (by omega), if_pos c3], rfl⟩)
        · rw [if_neg c3, if_pos trivial, ← nI_succ]
          exact hk' _ (Or.inr ⟨B, m, by rw [est, if_neg (by omega), if_neg c3], rfl⟩)
      · rw [if_neg c2, if_neg i10, if_neg i10, ← nI_succ]
        rw [zle] at c2
        exact hk' _ (Or.inr ⟨b, 1, by rw [est, if_pos (by omega)], rfl⟩)
    · rw [if_neg c, if_pos rfl, ← nI_succ]
      exact hk' _ (Or.inr ⟨B, m, by rw [est, if_neg c], rfl⟩)
theorem qCnt_mo {x : Int32} {t c : Nat} (h : qCnt x t = nI c) : ∀ m, t + m ≤ 32 → ∃ c', qCnt x (t + m) = nI c' ∧ c ≤ c' ∧ c' ≤ c + m
  | 0, _ => ⟨c, h, Nat.le_refl c, Nat.le_refl c⟩
  | m + 1, ht => by
    obtain ⟨c', g1, g2, g3⟩ := qCnt_mo h m (by omega)
    have e : qCnt x (t + (m + 1)) = qCnt x (t + m) + qBit x (t + m) := rfl
    rcases qBit01 x (t := t + m) (by omega) with z | z
    · exact ⟨c', by rw [e, z, g1, Int32.add_zero], g2, by omega⟩
    · exact ⟨c' + 1, by rw [e, z, g1, nI_1], by omega, by omega⟩
theorem p_hasDrop {u : zWd} {t : Nat} (ht : t < 32) : mX6_hasDrop 94 (nI t) u = some (if qBit (u 94 5) t = 1 then 1 else 0, u) := by
  unfold mX6_hasDrop mX6_hasDrop_16
  show (if qBit (u 94 5) t = 0 then _ else _) = _
  rcases qBit01 (u 94 5) ht with z | z
  · rw [if_pos z, if_neg (by rw [z]; decide), zgd_t zB0]
  · rw [if_neg (by rw [z]; decide), if_pos z, zgd_t zB1]
theorem p_hasChange {u : zWd} {t : Nat} (ht : t < 32) : mX6_hasChange 94 (nI t) u = some (if qBit (u 94 7) t = 1 then 1 else 0, u) := by
  unfold mX6_hasChange mX6_hasChange_16
  show (if qBit (u 94 7) t = 0 then _ else _) = _
  rcases qBit01 (u 94 7) ht with z | z
  · rw [if_pos z, if_neg (by rw [z]; decide), zgd_t zB0]
  · rw [if_neg (by rw [z]; decide), if_pos z, zgd_t zB1]
theorem u_cause {n : Nat} {w : zWd} (h : qInv n w) (a what : Int32) : qBoth n w (mX11_cause 0 a what) (mX12_cause 231 a what) := by
  obtain ⟨T, hT, e1, e2⟩ := q_taps h
  by_cases hw : 0 ≤ what.toInt ∧ what.toInt < 2
  rotate_left
  · exact qBoth_id h (-1) (by unfold mX11_cause; simp (disch := (first | omega | (simp (disch := omega) only [zu1, zu2, zu3, nIi, T2]; omega))) only [if_true, if_false, zE10, zE00, zOkN, Nat.reduceAdd, Nat.reduceMul, zcl_s, zif01, zbn_e, nIi, nI_clamp, nI_add, nI_1, pk_mul, zgi, zlt, zle, Int32.zero_add, Int32.add_zero, C0, C1, G0, G1, Nat.zero_add, Nat.add_zero, l2, l3, l4, l5, l6, l7, l8, l10, l11, l12, l20, l30, l48, l50, l60, l100, l120, l140, l152, l164, l176, l188, l200, l212, l224, l1604, l1880, l2000, l2008, l2016, l2024, l2032, l2040, l2048, l2210, l2240, l2270, l2300, l2330, l2390, l2450, l2510, l2570, l2590, l2620, l2650, l2660, l2700, T0, T1, Tm1, Tm99, Tm999, p_within, p_in, p_isCell, p_isOwner, p_isDay11, p_isDay12, p_isTap11, p_isTaker11, if_pos, if_neg, p_isTap12, p_isTaker12, p_isGone, zu1, zu2, zu3, nIe, Nat.reduceSub, T2]) (by unfold mX12_cause; simp (disch := (first | omega | (simp (disch := omega) only [zu1, zu2, zu3, nIi]; omega))) only [if_true, if_false, zE10, zE00, zOkN, Nat.reduceAdd, Nat.reduceMul, zcl_s, zif01, zbn_e, nIi, nI_clamp, nI_add, nI_1, pk_mul, zgi, zlt, zle, Int32.zero_add, Int32.add_zero, C0, C1, G0, G1, Nat.zero_add, Nat.add_zero, l2, l3, l4, l5, l6, l7, l8, l10, l11, l12, l20, l30, l48, l50, l60, l100, l120, l140, l152, l164, l176, l188, l200, l212, l224, l1604, l1880, l2000, l2008, l2016, l2024, l2032, l2040, l2048, l2210, l2240, l2270, l2300, l2330, l2390, l2450, l2510, l2570, l2590, l2620, l2650, l2660, l2700, T0, T1, Tm1, Tm99, Tm999, p_within, p_in, p_isCell, p_isOwner, p_isDay11, p_isDay12, p_isTap11, p_isTaker11, if_pos, if_neg, p_isTap12, p_isTaker12, p_isGone, zu1, zu2, zu3, nIe, Nat.reduceSub])
  by_cases hd : 0 ≤ a.toInt ∧ a.toInt ≤ 99
  rotate_left
  · refine qBoth_id h (-2) ?_ (by unfold mX12_cause; simp (disch := (first | omega | (simp (disch := omega) only [zu1, zu2, zu3, nIi, T99]; omega))) only [if_true, if_false, zE10, zE00, zOkN, Nat.reduceAdd, Nat.reduceMul, zcl_s, zif01, zbn_e, nIi, nI_clamp, nI_add, nI_1, pk_mul, zgi, zlt, zle, Int32.zero_add, Int32.add_zero, C0, C1, G0, G1, Nat.zero_add, Nat.add_zero, l2, l3, l4, l5, l6, l7, l8, l10, l11, l12, l20, l30, l48, l50, l60, l100, l120, l140, l152, l164, l176, l188, l200, l212, l224, l1604, l1880, l2000, l2008, l2016, l2024, l2032, l2040, l2048, l2210, l2240, l2270, l2300, l2330, l2390, l2450, l2510, l2570, l2590, l2620, l2650, l2660, l2700, T0, T1, Tm1, Tm99, Tm999, p_within, p_in, p_isCell, p_isOwner, p_isDay11, p_isDay12, p_isTap11, p_isTaker11, if_pos, if_neg, p_isTap12, p_isTaker12, p_isGone, zu1, zu2, zu3, nIe, Nat.reduceSub, T99])
    unfold mX11_cause mX11_cause_20
    by_cases c : a.toInt < 0
    · simp (disch := (first | omega | (simp (disch := omega) only [zu1, zu2, zu3, nIi, T2]; omega))) only [if_true, if_false, zE10, zE00, zOkN, Nat.reduceAdd, Nat.reduceMul, zcl_s, zif01, zbn_e, nIi, nI_clamp, nI_add, nI_1, pk_mul, zgi, zlt, zle, Int32.zero_add, Int32.add_zero, C0, C1, G0, G1, Nat.zero_add, Nat.add_zero, l2, l3, l4, l5, l6, l7, l8, l10, l11, l12, l20, l30, l48, l50, l60, l100, l120, l140, l152, l164, l176, l188, l200, l212, l224, l1604, l1880, l2000, l2008, l2016, l2024, l2032, l2040, l2048, l2210, l2240, l2270, l2300, l2330, l2390, l2450, l2510, l2570, l2590, l2620, l2650, l2660, l2700, T0, T1, Tm1, Tm99, Tm999, p_within, p_in, p_isCell, p_isOwner, p_isDay11, p_isDay12, p_isTap11, p_isTaker11, if_pos, if_neg, p_isTap12, p_isTaker12, p_isGone, zu1, zu2, zu3, nIe, Nat.reduceSub, T2]
    · simp (disch := (first | omega | (simp (disch := omega) only [zu1, zu2, zu3, nIi, T2, T99]; omega))) only [if_true, if_false, zE10, zE00, zOkN, Nat.reduceAdd, Nat.reduceMul, zcl_s, zif01, zbn_e, nIi, nI_clamp, nI_add, nI_1, pk_mul, zgi, zlt, zle, Int32.zero_add, Int32.add_zero, C0, C1, G0, G1, Nat.zero_add, Nat.add_zero, l2, l3, l4, l5, l6, l7, l8, l10, l11, l12, l20, l30, l48, l50, l60, l100, l120, l140, l152, l164, l176, l188, l200, l212, l224, l1604, l1880, l2000, l2008, l2016, l2024, l2032, l2040, l2048, l2210, l2240, l2270, l2300, l2330, l2390, l2450, l2510, l2570, l2590, l2620, l2650, l2660, l2700, T0, T1, Tm1, Tm99, Tm999, p_within, p_in, p_isCell, p_isOwner, p_isDay11, p_isDay12, p_isTap11, p_isTaker11, if_pos, if_neg, p_isTap12, p_isTaker12, p_isGone, zu1, zu2, zu3, nIe, Nat.reduceSub, T2, T99]
  have e2i : (w 232 1).toInt = T := by rw [e2, nIi (by omega)]
  have hkd : ∀ t, t < T → w 4 t = w 232 (140 + t) ∧ w 5 t = w 232 (152 + t) ∧ w 6 t = w 232 (164 + t) := fun t ht => by
    obtain ⟨q1, q2, q3, _⟩ := (h.1.2.2.1 t (by omega)).1 (by rw [e2i]; omega)
    rw [qVw_at w (by decide)] at q1 q2 q3
    exact ⟨q1, q2, q3⟩
  have hcx : ∀ t, ∃ c : Nat, t < T → c < 30 ∧ w 5 t = nI c := by
    intro t
    by_cases ht : t < T
    · obtain ⟨c, k1, k2, k3, _⟩ := qNat (qRg_at (qR1 h) 13 rfl (i := t) (by omega)) (Int.le_refl 0)
      exact ⟨c, fun _ => ⟨by omega, by rw [(hkd t ht).2.1]; exact k1⟩⟩
    · exact ⟨0, fun q => absurd q ht⟩
  obtain ⟨cl, hcl⟩ := Classical.axiomOfChoice hcx
  -- bores
  have hb11 := s_bores11 hT e1
  have hN := qLb_le (kd := w 4) (A := w 230) T
  have hBx : ∀ c, ∃ B : Nat, c < (qLb (w 4) T (0, w 230)).1 → B < T ∧ (qLb (w 4) T (0, w 230)).2 c = nI B := by
    intro c
    by_cases hc : c < (qLb (w 4) T (0, w 230)).1
    · obtain ⟨B, h1, h2⟩ := qLb_v (kd := w 4) (A := w 230) T c hc
      exact ⟨B, fun _ => ⟨h1, h2⟩⟩
    · exact ⟨0, fun q => absurd q hc⟩
  obtain ⟨B, hB⟩ := Classical.axiomOfChoice hBx
  have hb12 : ∀ u : zWd, u 232 = w 232 → mX12_cause_29 231 a what 0 0 u = mX12_cause_77 231 a what (nI (qLb (w 4) T (0, w 230)).1) (qPw u 247 (qLb (fun t => w 232 (140 + t)) T (0, u 247)).2) ∧ ∀ c, c < (qLb (w 4) T (0, w 230)).1 → (qLb (fun t => w 232 (140 + t)) T (0, u 247)).2 c = nI (B c) := by
    intro u hu
    have h1 := s_bores12 (u := u) hT (by rw [hu]; exact e2) a what
    rw [hu] at h1
    have h2 : ∀ s, qLb (fun t => w 232 (140 + t)) T s = qLb (w 4) T s := fun s => qLb_c T (fun i hi => (hkd i hi).1.symm)
    have h3 := qLb_j (kd := w 4) (A := w 230) (A' := u 247) T
    rw [h1, h2, ← h3.1]
    exact ⟨rfl, fun c hc => by rw [← h3.2 c hc]; exact (hB c hc).2⟩
  generalize hNN : (qLb (w 4) T (0, w 230)).1 = N at *
  generalize (qLb (w 4) T (0, w 230)).2 = arr at hb11 hB
  -- the class: dues
  obtain ⟨⟨hx0, hx1, hx4⟩, hdr⟩ := h.1.2.2.2.1
  rw [qVw_at w (by decide)] at hx0 hx1 hx4
  simp only [Nat.reduceAdd] at hx0 hx1 hx4
  have hdr2 : ∀ t, t < 12 → (qBit (w 94 5) t = 1 ∧ w 232 (2570 + t) = w 99 t ∧ 0 ≤ (w 232 (2570 + t)).toInt) ∨ (qBit (w 94 5) t = 0 ∧ w 232 (2570 + t) = -1) := fun t ht => by
    have := hdr t ht
    rw [qVw_at w (by decide), qVw_at w (by decide)] at this
    rcases this with ⟨g1, g2, g3, _⟩ | g
    · exact Or.inl ⟨g1, g2, g3⟩
    · exact Or.inr g
  have hcm : ∃ u Q, Q ≤ 6 ∧ mX11_cause 0 a what w = some (qFrv (qFw (qEx u N Q) (2 ^ N)) what, u) ∧ qJ w u ∧ ∀ b, (qEx u N Q b = true ↔ ∀ t, t < T → qBit (w 94 5) t = 1 → (qAb (qBu (qSh B cl (w 6) t) (nI b) N - w 99 t)).toInt ≤ a.toInt) := by
    have f0 : mX11_cause 0 a what w = mX11_cause_47 0 what 0 (zup (zup (zup (qPw w 230 arr) 226 0 (nI N)) 226 1 a) 226 2 0) := by
      unfold mX11_cause
      have hsb := s_begin (qPw w 230 arr) hN a
      simp (disch := (first | omega | (simp (disch := omega) only [zu1, zu2, zu3, nIi, T2, T99, hb11, hsb]; omega))) only [if_true, if_false, zE10, zE00, zOkN, Nat.reduceAdd, Nat.reduceMul, zcl_s, zif01, zbn_e, nIi, nI_clamp, nI_add, nI_1, pk_mul, zgi, zlt, zle, Int32.zero_add, Int32.add_zero, C0, C1, G0, G1, Nat.zero_add, Nat.add_zero, l2, l3, l4, l5, l6, l7, l8, l10, l11, l12, l20, l30, l48, l50, l60, l100, l120, l140, l152, l164, l176, l188, l200, l212, l224, l1604, l1880, l2000, l2008, l2016, l2024, l2032, l2040, l2048, l2210, l2240, l2270, l2300, l2330, l2390, l2450, l2510, l2570, l2590, l2620, l2650, l2660, l2700, T0, T1, Tm1, Tm99, Tm999, p_within, p_in, p_isCell, p_isOwner, p_isDay11, p_isDay12, p_isTap11, p_isTaker11, if_pos, if_neg, p_isTap12, p_isTaker12, p_isGone, zu1, zu2, zu3, nIe, Nat.reduceSub, T2, T99, hb11, hsb]
    rw [f0]
    unfold mX11_cause_47
    refine zlp_R (R := fun (Y : Option (Int32 × zWd)) => ∃ u Q, Q ≤ 6 ∧ Y = some (qFrv (qFw (qEx u N Q) (2 ^ N)) what, u) ∧ qJ w u ∧ ∀ b, (qEx u N Q b = true ↔ ∀ t, t < T → qBit (w 94 5) t = 1 → (qAb (qBu (qSh B cl (w 6) t) (nI b) N - w 99 t)).toInt ≤ a.toInt))
      (P := fun (t : Nat) (q : Int32 × zWd) => ∃ (u : zWd) (Q : Nat), q = (nI t, u) ∧ qJ w u ∧ u 226 0 = nI N ∧ u 226 1 = a ∧ u 226 2 = nI Q ∧ u 230 = arr ∧ qCnt (w 94 5) t = nI Q ∧ Q ≤ 6 ∧ ∀ b, (qEx u N Q b = true ↔ ∀ t', t' < t → qBit (w 94 5) t' = 1 → (qAb (qBu (qSh B cl (w 6) t') (nI b) N - w 99 t')).toInt ≤ a.toInt)) (n := T) (by unfold zFU; omega) ?_ ⟨_, 0, rfl, ((((qJ.rf w).pw (k := 230) (by decide) arr).up (by decide) 0 (nI N)).up (by decide) 1 a).up (by decide) 2 0, ?_, ?_, ?_, ?_, rfl, by omega, fun b => ?_⟩
    rotate_left
    · rw [zu2 _ _ (by decide), zu2 _ _ (by decide), zu3]
    · rw [zu2 _ _ (by decide), zu3]
    · rw [zu3]; rfl
    · rw [zpE _ _ _ (by decide), zpE _ _ _ (by decide), zpE _ _ _ (by decide), qPw_e]
    · rw [qEx_s rfl]
      exact ⟨fun _ t' ht' => absurd ht' (by omega), fun _ i hi => absurd hi (by omega)⟩
    rintro t ht q ⟨u, Q, rfl, g1, g2, g3, g4, g5, g6, g7, g8⟩ k hk
    simp only [mX11_cause_47b, mX11_cause_80]
    have u2 : u 2 1 = nI T := by rw [g1.lo (by omega)]; exact e1
    by_cases et : t = T
    · subst et
      refine ⟨u, Q, g7, ?_, g1, g8⟩
      have ha := s_answer11 hN g7 g2 g4 what
      simp (disch := (first | omega | (simp (disch := omega) only [zu1, zu2, zu3, nIi, u2, ha]; omega))) only [if_true, if_false, zE10, zE00, zOkN, Nat.reduceAdd, Nat.reduceMul, zcl_s, zif01, zbn_e, nIi, nI_clamp, nI_add, nI_1, pk_mul, zgi, zlt, zle, Int32.zero_add, Int32.add_zero, C0, C1, G0, G1, Nat.zero_add, Nat.add_zero, l2, l3, l4, l5, l6, l7, l8, l10, l11, l12, l20, l30, l48, l50, l60, l100, l120, l140, l152, l164, l176, l188, l200, l212, l224, l1604, l1880, l2000, l2008, l2016, l2024, l2032, l2040, l2048, l2210, l2240, l2270, l2300, l2330, l2390, l2450, l2510, l2570, l2590, l2620, l2650, l2660, l2700, T0, T1, Tm1, Tm99, Tm999, p_within, p_in, p_isCell, p_isOwner, p_isDay11, p_isDay12, p_isTap11, p_isTaker11, if_pos, if_neg, p_isTap12, p_isTaker12, p_isGone, zu1, zu2, zu3, nIe, Nat.reduceSub, u2, ha]
    have ht2 : t < T := by omega
    have hbit := p_hasDrop (u := u) (t := t) (by omega)
    rw [g1.lo (show 94 ≤ 205 ∨ _ by omega)] at hbit
    have ecn : qCnt (w 94 5) (t + 1) = qCnt (w 94 5) t + qBit (w 94 5) t := rfl
    have i10 : ((1 : Int32) = 0) = False := by simp
    rcases qBit01 (w 94 5) (t := t) (by omega) with z | z
    · rw [if_neg (by rw [z]; decide)] at hbit
      simp (disch := (first | omega | (simp (disch := omega) only [zu1, zu2, zu3, nIi, u2, hbit]; omega))) only [if_true, if_false, zE10, zE00, zOkN, Nat.reduceAdd, Nat.reduceMul, zcl_s, zif01, zbn_e, nIi, nI_clamp, nI_add, nI_1, pk_mul, zgi, zlt, zle, Int32.zero_add, Int32.add_zero, C0, C1, G0, G1, Nat.zero_add, Nat.add_zero, l2, l3, l4, l5, l6, l7, l8, l10, l11, l12, l20, l30, l48, l50, l60, l100, l120, l140, l152, l164, l176, l188, l200, l212, l224, l1604, l1880, l2000, l2008, l2016, l2024, l2032, l2040, l2048, l2210, l2240, l2270, l2300, l2330, l2390, l2450, l2510, l2570, l2590, l2620, l2650, l2660, l2700, T0, T1, Tm1, Tm99, Tm999, p_within, p_in, p_isCell, p_isOwner, p_isDay11, p_isDay12, p_isTap11, p_isTaker11, if_pos, if_neg, p_isTap12, p_isTaker12, p_isGone, zu1, zu2, zu3, nIe, Nat.reduceSub, u2, hbit]
      refine hk ht2 _ ⟨u, Q, rfl, g1, g2, g3, g4, g5, by rw [ecn, z, Int32.add_zero]; exact g6, g7, fun b => ?_⟩
      rw [g8 b]
      refine ⟨fun q t' ht' hz => ?_, fun q t' ht' => q t' (by omega)⟩
      by_cases e : t' = t
      · rw [e, z] at hz; exact absurd hz (by decide)
      · exact q t' (by omega) hz
    · rw [if_pos z] at hbit
      have hq1 : qCnt (w 94 5) (t + 1) = nI (Q + 1) := by rw [ecn, z, g6, nI_1]
      obtain ⟨c', m1, m2, m3⟩ := qCnt_mo hq1 (11 - t) (by omega)
      rw [show t + 1 + (11 - t) = 12 by omega] at m1
      rw [m1, nIi (by omega)] at hx4
      obtain ⟨u', j1, j2⟩ := s_addDrop (u := u) (N := N) (Q := Q) (T := T) (t := t) (B := B) (cl := cl) (tn := w 6) hN (by omega) hT ht2 (fun c hc => (hB c hc).1) (fun t ht => (hcl t ht).1) g2 g4 (fun c hc => by rw [g5]; exact (hB c hc).2) (fun t ht => by rw [g1.lo (by omega)]; exact (hcl t ht).2) (fun t ht => by rw [g1.lo (by omega)])
      simp (disch := (first | omega | (simp (disch := omega) only [zu1, zu2, zu3, nIi, u2, hbit, i10, j1]; omega))) only [if_true, if_false, zE10, zE00, zOkN, Nat.reduceAdd, Nat.reduceMul, zcl_s, zif01, zbn_e, nIi, nI_clamp, nI_add, nI_1, pk_mul, zgi, zlt, zle, Int32.zero_add, Int32.add_zero, C0, C1, G0, G1, Nat.zero_add, Nat.add_zero, l2, l3, l4, l5, l6, l7, l8, l10, l11, l12, l20, l30, l48, l50, l60, l100, l120, l140, l152, l164, l176, l188, l200, l212, l224, l1604, l1880, l2000, l2008, l2016, l2024, l2032, l2040, l2048, l2210, l2240, l2270, l2300, l2330, l2390, l2450, l2510, l2570, l2590, l2620, l2650, l2660, l2700, T0, T1, Tm1, Tm99, Tm999, p_within, p_in, p_isCell, p_isOwner, p_isDay11, p_isDay12, p_isTap11, p_isTaker11, if_pos, if_neg, p_isTap12, p_isTaker12, p_isGone, zu1, zu2, zu3, nIe, Nat.reduceSub, u2, hbit, i10, j1]
      refine hk ht2 _ ⟨u', Q + 1, rfl, g1.tr (qJ.du j2), j2.2.1.trans g2, j2.2.2.1.trans g3, j2.2.2.2.1, by rw [j2.1 230 (by decide) (by decide) (by decide)]; exact g5, hq1, by omega, fun b => ?_⟩
      rw [qEx_du hN g3 j2, g8 b, g1.lo (show 99 ≤ 205 ∨ _ by omega)]
      refine ⟨fun q t' ht' hz => ?_, fun q => ⟨fun t' ht' => q t' (by omega), q t (by omega) z⟩⟩
      by_cases e : t' = t
      · rw [e]; exact q.2
      · exact q.1 t' (by omega) hz
  obtain ⟨u, Q, hQ, c1, c2, c3⟩ := hcm
  have eu : u 232 = w 232 := c2.lo (by omega)
  obtain ⟨m1, m2⟩ := hb12 u eu
  generalize (qLb (fun t => w 232 (140 + t)) T (0, u 247)).2 = arr2 at m1 m2
  have m3 : mX12_cause 231 a what u = mX12_cause_29 231 a what 0 0 u := by unfold mX12_cause; simp (disch := (first | omega | (simp (disch := omega) only [zu1, zu2, zu3, nIi, T99]; omega))) only [if_true, if_false, zE10, zE00, zOkN, Nat.reduceAdd, Nat.reduceMul, zcl_s, zif01, zbn_e, nIi, nI_clamp, nI_add, nI_1, pk_mul, zgi, zlt, zle, Int32.zero_add, Int32.add_zero, C0, C1, G0, G1, Nat.zero_add, Nat.add_zero, l2, l3, l4, l5, l6, l7, l8, l10, l11, l12, l20, l30, l48, l50, l60, l100, l120, l140, l152, l164, l176, l188, l200, l212, l224, l1604, l1880, l2000, l2008, l2016, l2024, l2032, l2040, l2048, l2210, l2240, l2270, l2300, l2330, l2390, l2450, l2510, l2570, l2590, l2620, l2650, l2660, l2700, T0, T1, Tm1, Tm99, Tm999, p_within, p_in, p_isCell, p_isOwner, p_isDay11, p_isDay12, p_isTap11, p_isTaker11, if_pos, if_neg, p_isTap12, p_isTaker12, p_isGone, zu1, zu2, zu3, nIe, Nat.reduceSub, T99]
  have hL := s_causeL (u := qPw u 247 arr2) (E := qEx u N Q) hN a what (fun b hb => by
    rw [s_explains12 (u := qPw u 247 arr2) (B := B) (cl := cl) (tn := w 6) hN hT (fun c hc => (hB c hc).1) (fun t ht => (hcl t ht).1) (by rw [qPw_n _ _ (by decide), eu]; exact e2) (fun c hc => by rw [qPw_e]; exact m2 c hc) (fun t ht => by rw [qPw_n _ _ (by decide), eu, ← (hkd t ht).2.1]; exact (hcl t ht).2) (fun t ht => by rw [qPw_n _ _ (by decide), eu, ← (hkd t ht).2.2]) a b]
    have hiff : (∀ t, t < T → ¬ qPw u 247 arr2 232 (2570 + t) = -1 → (qAb (qBu (qSh B cl (w 6) t) (nI b) N - qPw u 247 arr2 232 (2570 + t))).toInt ≤ a.toInt) ↔ qEx u N Q b = true := by
      rw [c3 b, qPw_n _ _ (show 232 ≠ 247 by decide), eu]
      refine ⟨fun q t ht z => ?_, fun q t ht z => ?_⟩
      · rcases hdr2 t (by omega) with ⟨z1, z2, z3⟩ | ⟨z1, z2⟩
        · rw [← z2]; exact q t ht (fun q' => by rw [q', Tm1] at z3; omega)
        · rw [z1] at z; exact absurd z (by decide)
      · rcases hdr2 t (by omega) with ⟨z1, z2, z3⟩ | ⟨z1, z2⟩
        · rw [z2]; exact q t ht z1
        · exact absurd z2 z
    by_cases c : qEx u N Q b = true
    · rw [if_pos c, if_pos (hiff.mpr c)]
    · rw [if_neg c, if_neg (fun q => c (hiff.mp q))])
  exact qBoth_j h c1 ((m3.trans m1).trans hL) (c2.pw (k := 247) (by decide) arr2)
