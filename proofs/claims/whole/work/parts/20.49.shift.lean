theorem s_shiftL {u : zWd} {N : Nat} {E : Nat → Bool} (hN : N ≤ 8) (e7 : u 232 7 = nI N) (what : Int32) (hE : ∀ b, b < 2 ^ N → mX12_shook 231 (nI b) u = some (if E b = true then 1 else 0, u)) : mX12_shift_19 231 what (-5) 0 0 u = some (qFrv (qFw E (2 ^ N)) what, u) := by
  have h256 := pow_256 hN
  have z7 : ∀ X : Option (Int32 × zWd), zgd (zin (7 : Int32) 21948) X = X := fun X => zgd_t (by rw [zinI]; exact ⟨by decide, by decide⟩) X
  have e7' : u (231 + 1) (7 : Int32).toNatClampNeg = nI N := e7
  unfold mX12_shift_19
  refine zlp_to (P := fun (b : Nat) (q : Int32 × Int32 × Int32 × zWd) => (qFw E b = none ∧ q = (-5, 0, nI b, u)) ∨ ∃ B m, qFw E b = some (B, m) ∧ q = (nI B, nI m, nI b, u)) (n := 2 ^ N) (by unfold zFU; omega) ?_ (Or.inl ⟨rfl, rfl⟩)
  rintro b hb q hq k hk
  have n5 : ∀ B, B < 256 → ¬ (nI B : Int32) = -5 := fun B hB q => absurd (congrArg Int32.toInt q) (by rw [nIi (by omega), show (-5 : Int32).toInt = -5 by decide]; omega)
  by_cases e : b = 2 ^ N
  · rcases hq with ⟨h1, rfl⟩ | ⟨B, m, h1, rfl⟩
    · simp only [mX12_shift_19b, mX12_shift_124, mX12_shift_129]
      rw [z7, if_pos (show ((1 : Int32) <<< ((u (231 + 1) (7 : Int32).toNatClampNeg) &&& 31)) ≤ nI b by rw [e7', shl_pow N (by omega)]; exact nI_le (by omega) (by omega)), if_pos trivial, ← e, h1]
      rfl
    · obtain ⟨hB, hm⟩ := qFw_b b B m h1
      simp only [mX12_shift_19b, mX12_shift_124, mX12_shift_129]
      rw [z7, if_pos (show ((1 : Int32) <<< ((u (231 + 1) (7 : Int32).toNatClampNeg) &&& 31)) ≤ nI b by rw [e7', shl_pow N (by omega)]; exact nI_le (by omega) (by omega)), if_neg (n5 B (by omega)), ← e, h1]
      unfold qFrv
      by_cases c : what = 0
      · simp only [if_pos c]
      · simp only [if_neg c]
  have hb2 : b < 2 ^ N := by omega
  have hex := hE b hb2
  have i10 : ¬ ((1 : Int32) = 0) := by decide
  have hk' := fun x hx => hk hb2 x hx
  have hcb := s_count1 (b := b) (by omega) u
  rcases hq with ⟨h1, rfl⟩ | ⟨B, m, h1, rfl⟩
  · simp only [mX12_shift_19b, mX12_shift_108, mX12_shift_60, mX12_shift_65, mX12_shift_95, mX12_shift_107]
    rw [z7, if_neg (show ¬ ((1 : Int32) <<< ((u (231 + 1) (7 : Int32).toNatClampNeg) &&& 31)) ≤ nI b by rw [e7', shl_pow N (by omega)]; exact nI_ge hb2 (by omega)), hex, zcl_s]
    have est : qFw E (b + 1) = if E b = true then some (b, 1) else none := by
      conv => lhs; unfold qFw
      rw [h1]
    by_cases c : E b = true
    · rw [if_pos c, if_neg i10, if_pos trivial, if_neg i10, if_neg i10, ← nI_succ]
      exact hk' _ (Or.inr ⟨b, 1, by rw [est, if_pos c], rfl⟩)
    · rw [if_neg c, if_pos rfl, ← nI_succ]
      exact hk' _ (Or.inl ⟨by rw [est, if_neg c], rfl⟩)
  · obtain ⟨hB, hm⟩ := qFw_b b B m h1
    have hcB := s_count1 (b := B) (by omega) u
    simp only [mX12_shift_19b, mX12_shift_108, mX12_shift_60, mX12_shift_65, mX12_shift_95, mX12_shift_107]
    rw [z7, if_neg (show ¬ ((1 : Int32) <<< ((u (231 + 1) (7 : Int32).toNatClampNeg) &&& 31)) ≤ nI b by rw [e7', shl_pow N (by omega)]; exact nI_ge hb2 (by omega)), hex, zcl_s]
    have est : qFw E (b + 1) = if E b = true then (if (qPc b).toInt < (qPc B).toInt then some (b, 1) else if qPc b = qPc B then some (B, m + 1) else some (B, m)) else some (B, m) := by
      conv => lhs; unfold qFw
      rw [h1]
    by_cases c : E b = true
    · rw [if_pos c, if_neg i10, if_neg (n5 B (by omega)), hcb, zcl_s, hcB, zcl_s]
      rw [if_pos c] at est
      by_cases c2 : qPc B ≤ qPc b
      · rw [if_pos c2, if_pos trivial, hcb, zcl_s, hcB, zcl_s]
        rw [zle] at c2
        by_cases c3 : qPc b = qPc B
        · rw [if_pos c3, if_pos trivial, ← nI_succ, ← nI_succ]
          exact hk' _ (Or.inr ⟨B, m + 1, by rw [est, if_neg (by omega), if_pos c3], rfl⟩)
        · rw [if_neg c3, if_pos trivial, ← nI_succ]
          exact hk' _ (Or.inr ⟨B, m, by rw [est, if_neg (by omega), if_neg c3], rfl⟩)
      · rw [if_neg c2, if_neg i10, if_neg i10, ← nI_succ]
        rw [zle] at c2
        exact hk' _ (Or.inr ⟨b, 1, by rw [est, if_pos (by omega)], rfl⟩)
    · rw [if_neg c, if_pos rfl, ← nI_succ]
      exact hk' _ (Or.inr ⟨B, m, by rw [est, if_neg c], rfl⟩)
theorem toInt_add_s {a b : Int32} (h1 : -100000 ≤ a.toInt ∧ a.toInt ≤ 100000) (h2 : -100000 ≤ b.toInt ∧ b.toInt ≤ 100000) : (a + b).toInt = a.toInt + b.toInt := by
  rw [Int32.toInt_add, Int.bmod_eq_of_le (by omega) (by omega)]
theorem toInt_sub_s {a b : Int32} (h1 : -100000 ≤ a.toInt ∧ a.toInt ≤ 100000) (h2 : -100000 ≤ b.toInt ∧ b.toInt ≤ 100000) : (a - b).toInt = a.toInt - b.toInt := by
  rw [Int32.toInt_sub, Int.bmod_eq_of_le (by omega) (by omega)]
theorem toInt_neg_s {a : Int32} (h1 : -100000 ≤ a.toInt ∧ a.toInt ≤ 100000) : (-a).toInt = -a.toInt := by
  rw [Int32.toInt_neg, Int.bmod_eq_of_le (by omega) (by omega)]
theorem qAb_0 {a b : Int32} (h1 : -1000 ≤ a.toInt ∧ a.toInt ≤ 1000) (h2 : -1000 ≤ b.toInt ∧ b.toInt ≤ 1000) : (qAb (a - b)).toInt ≤ (0 : Int32).toInt ↔ a = b := by
  have hs := toInt_sub_s (a := a) (b := b) (by omega) (by omega)
  have hn := toInt_neg_s (a := a - b) (by omega)
  unfold qAb
  rw [T0]
  refine ⟨fun q => Int32.toInt_inj.mp ?_, fun q => ?_⟩
  · by_cases c : 0 ≤ (a - b).toInt
    · rw [if_pos c] at q; omega
    · rw [if_neg c] at q; omega
  · rw [q, Int32.sub_self]; decide
theorem qBu_bd {f : Nat → Int32} {x : Int32} : ∀ n, n ≤ 8 → (∀ c, c < n → -99 ≤ (f c).toInt ∧ (f c).toInt ≤ 99) → -(99 * n : Int) ≤ (qBu f x n).toInt ∧ (qBu f x n).toInt ≤ 99 * n
  | 0, _, _ => by unfold qBu; rw [T0]; omega
  | n + 1, hn, h => by
    obtain ⟨h1, h2⟩ := qBu_bd (x := x) n (by omega) (fun c hc => h c (by omega))
    have h3 := h n (by omega)
    unfold qBu
    by_cases z : qBit x n = 1
    · rw [if_pos z, toInt_add_s (by omega) (by omega)]; omega
    · rw [if_neg z]; omega
theorem half_99 : ∀ m, m < 100 → -99 ≤ (nI m / nI 2).toInt ∧ (nI m / nI 2).toInt ≤ 99 ∧ -99 ≤ (-(nI m) / nI 2).toInt ∧ (-(nI m) / nI 2).toInt ≤ 99 := by decide +kernel
theorem half_bd {x : Int32} (h : -99 ≤ x.toInt ∧ x.toInt ≤ 99) : -99 ≤ (x / nI 2).toInt ∧ (x / nI 2).toInt ≤ 99 := by
  by_cases c : 0 ≤ x.toInt
  · obtain ⟨m, k1, k2, k3, _⟩ := qNat (x := x) (lo := 0) (hi := 99) ⟨c, h.2⟩ (by decide)
    have := half_99 m (by omega)
    rw [k1]; exact ⟨this.1, this.2.1⟩
  · have hn := toInt_neg_s (a := x) (by omega)
    obtain ⟨m, k1, k2, k3, _⟩ := qNat (x := -x) (lo := 0) (hi := 99) ⟨by omega, by omega⟩ (by decide)
    have := half_99 m (by omega)
    rw [show x = -(nI m) by rw [← k1, Int32.neg_neg]]
    exact ⟨this.2.2.1, this.2.2.2⟩
/-- what a push does to a cell -/
def qSg (pc : Nat → Nat) (st : Nat → Int32) (cell c : Nat) : Int32 := if (qDs (nI cell) (nI (pc c))).toInt ≤ 1 then st c else if qDs (nI cell) (nI (pc c)) = nI 2 then st c / nI 2 else 0
theorem qSg_bd {pc : Nat → Nat} {st : Nat → Int32} {cell c : Nat} (h : -99 ≤ (st c).toInt ∧ (st c).toInt ≤ 99) : -99 ≤ (qSg pc st cell c).toInt ∧ (qSg pc st cell c).toInt ≤ 99 := by
  unfold qSg
  by_cases c1 : (qDs (nI cell) (nI (pc c))).toInt ≤ 1
  · rw [if_pos c1]; exact h
  rw [if_neg c1]
  by_cases c2 : qDs (nI cell) (nI (pc c)) = nI 2
  · rw [if_pos c2]; exact half_bd h
  · rw [if_neg c2, T0]; omega
theorem s_addChange {u : zWd} {N Q cell : Nat} {pc : Nat → Nat} {st : Nat → Int32} (hN : N ≤ 6) (hQ : Q < 6) (hcell : cell < 30) (hc : ∀ c, c < N → pc c < 30) (c0 : u 226 0 = nI N) (c2 : u 226 2 = nI Q) (b1 : ∀ c, c < N → u 101 c = nI (pc c)) (b2 : ∀ c, c < N → u 102 c = st c) : ∃ u', mX11_addChange 0 (nI cell) u = some ((), u') ∧ qDu u u' N Q (u 100 cell) (qSg pc st cell) := by
  refine ⟨_, ?_, qDu_of u (u 100 cell) (qSg pc st cell)⟩
  unfold mX11_addChange
  have hd := s_due (u := u) hQ c2 (u 100 cell)
  simp (disch := (first | omega | (simp (disch := omega) only [zu1, zu2, zu3, nIi, hd]; omega))) only [if_true, if_false, zE10, zE00, zOkN, Nat.reduceAdd, Nat.reduceMul, zcl_s, zif01, zbn_e, nIi, nI_clamp, nI_add, nI_1, pk_mul, zgi, zlt, zle, Int32.zero_add, Int32.add_zero, C0, C1, G0, G1, Nat.zero_add, Nat.add_zero, l2, l3, l4, l5, l6, l7, l8, l10, l11, l12, l20, l30, l48, l50, l60, l100, l120, l140, l152, l164, l176, l188, l200, l212, l224, l1604, l1880, l2000, l2008, l2016, l2024, l2032, l2040, l2048, l2210, l2240, l2270, l2300, l2330, l2390, l2450, l2510, l2570, l2590, l2620, l2650, l2660, l2700, T0, T1, Tm1, Tm99, Tm999, p_within, p_in, p_isCell, p_isOwner, p_isDay11, p_isDay12, p_isTap11, p_isTaker11, if_pos, if_neg, p_isTap12, p_isTaker12, p_isGone, zu1, zu2, zu3, nIe, Nat.reduceSub, hd]
  unfold mX11_addChange_21
  have q0 : qPw (zup (zup u 227 Q (u 100 cell)) 226 2 (nI (Q + 1))) 228 (u 228) = zup (zup u 227 Q (u 100 cell)) 226 2 (nI (Q + 1)) := by
    conv => lhs; rw [show u 228 = zup (zup u 227 Q (u 100 cell)) 226 2 (nI (Q + 1)) 228 by rw [zpE _ _ _ (by decide), zpE _ _ _ (by decide)]]
    exact qPw_s _ _
  refine zlp_to (P := fun (c : Nat) (q : Int32 × zWd) => q = (nI c, qPw (zup (zup u 227 Q (u 100 cell)) 226 2 (nI (Q + 1))) 228 (qUp (fun c => 8 * Q + c) (qSg pc st cell) c (u 228)))) (n := N) (by unfold zFU; omega) ?_ (by show _ = (nI 0, qPw (zup (zup u 227 Q (u 100 cell)) 226 2 (nI (Q + 1))) 228 (u 228)); rw [q0]; rfl)
  rintro c hcN q rfl k hk
  simp only [mX11_addChange_21b, mX11_addChange_91]
  generalize hV : qPw (zup (zup u 227 Q (u 100 cell)) 226 2 (nI (Q + 1))) 228 (qUp (fun c => 8 * Q + c) (qSg pc st cell) c (u 228)) = V at *
  have V0 : V 226 0 = nI N := by rw [← hV, qPw_n _ _ (by decide), zu2 _ _ (by decide), zpE _ _ _ (by decide)]; exact c0
  have V2 : V 226 2 = nI (Q + 1) := by rw [← hV, qPw_n _ _ (by decide), zu3]
  have Vo : ∀ a, a ≠ 226 → a ≠ 227 → a ≠ 228 → V a = u a := fun a h1 h2 h3 => by rw [← hV, qPw_n _ _ h3, zpE _ _ _ h1, zpE _ _ _ h2]
  by_cases e : c = N
  · subst e
    simp (disch := (first | omega | (simp (disch := omega) only [zu1, zu2, zu3, nIi, V0]; omega))) only [if_true, if_false, zE10, zE00, zOkN, Nat.reduceAdd, Nat.reduceMul, zcl_s, zif01, zbn_e, nIi, nI_clamp, nI_add, nI_1, pk_mul, zgi, zlt, zle, Int32.zero_add, Int32.add_zero, C0, C1, G0, G1, Nat.zero_add, Nat.add_zero, l2, l3, l4, l5, l6, l7, l8, l10, l11, l12, l20, l30, l48, l50, l60, l100, l120, l140, l152, l164, l176, l188, l200, l212, l224, l1604, l1880, l2000, l2008, l2016, l2024, l2032, l2040, l2048, l2210, l2240, l2270, l2300, l2330, l2390, l2450, l2510, l2570, l2590, l2620, l2650, l2660, l2700, T0, T1, Tm1, Tm99, Tm999, p_within, p_in, p_isCell, p_isOwner, p_isDay11, p_isDay12, p_isTap11, p_isTaker11, if_pos, if_neg, p_isTap12, p_isTaker12, p_isGone, zu1, zu2, zu3, nIe, Nat.reduceSub, V0]
    exact hV.symm ▸ rfl
  have hc2 : c < N := by omega
  have v1 : V 101 c = nI (pc c) := by rw [Vo 101 (by decide) (by decide) (by decide)]; exact b1 c hc2
  have v2 : V 102 c = st c := by rw [Vo 102 (by decide) (by decide) (by decide)]; exact b2 c hc2
  obtain ⟨dd, d1, d2⟩ := qDs_n hcell (hc c hc2)
  have hsh := s_share (u := V) (c := c) hQ (by omega) V2 (qSg pc st cell c)
  have hk' := hk hc2 (nI (c + 1), zup V 228 (8 * Q + c) (qSg pc st cell c)) (by rw [← hV, qPw_uu]; rfl)
  by_cases ce : dd ≤ 1
  · have es : qSg pc st cell c = st c := by unfold qSg; rw [d2, if_pos (by rw [nIi (by omega)]; omega)]
    rw [es] at hsh hk'
    simp (disch := (first | omega | (simp (disch := omega) only [zu1, zu2, zu3, nIi, V0, v1, v2, p_dist, d2, hsh]; omega))) only [if_true, if_false, zE10, zE00, zOkN, Nat.reduceAdd, Nat.reduceMul, zcl_s, zif01, zbn_e, nIi, nI_clamp, nI_add, nI_1, pk_mul, zgi, zlt, zle, Int32.zero_add, Int32.add_zero, C0, C1, G0, G1, Nat.zero_add, Nat.add_zero, l2, l3, l4, l5, l6, l7, l8, l10, l11, l12, l20, l30, l48, l50, l60, l100, l120, l140, l152, l164, l176, l188, l200, l212, l224, l1604, l1880, l2000, l2008, l2016, l2024, l2032, l2040, l2048, l2210, l2240, l2270, l2300, l2330, l2390, l2450, l2510, l2570, l2590, l2620, l2650, l2660, l2700, T0, T1, Tm1, Tm99, Tm999, p_within, p_in, p_isCell, p_isOwner, p_isDay11, p_isDay12, p_isTap11, p_isTaker11, if_pos, if_neg, p_isTap12, p_isTaker12, p_isGone, zu1, zu2, zu3, nIe, Nat.reduceSub, V0, v1, v2, p_dist, d2, hsh]
    exact hk'
  by_cases ce2 : dd = 2
  · have es : qSg pc st cell c = st c / nI 2 := by unfold qSg; rw [d2, if_neg (by rw [nIi (by omega)]; omega), if_pos (by rw [ce2])]
    rw [es] at hsh hk'
    simp (disch := (first | omega | (simp (disch := omega) only [zu1, zu2, zu3, nIi, V0, v1, v2, p_dist, d2, ce2, hsh]; omega))) only [if_true, if_false, zE10, zE00, zOkN, Nat.reduceAdd, Nat.reduceMul, zcl_s, zif01, zbn_e, nIi, nI_clamp, nI_add, nI_1, pk_mul, zgi, zlt, zle, Int32.zero_add, Int32.add_zero, C0, C1, G0, G1, Nat.zero_add, Nat.add_zero, l2, l3, l4, l5, l6, l7, l8, l10, l11, l12, l20, l30, l48, l50, l60, l100, l120, l140, l152, l164, l176, l188, l200, l212, l224, l1604, l1880, l2000, l2008, l2016, l2024, l2032, l2040, l2048, l2210, l2240, l2270, l2300, l2330, l2390, l2450, l2510, l2570, l2590, l2620, l2650, l2660, l2700, T0, T1, Tm1, Tm99, Tm999, p_within, p_in, p_isCell, p_isOwner, p_isDay11, p_isDay12, p_isTap11, p_isTaker11, if_pos, if_neg, p_isTap12, p_isTaker12, p_isGone, zu1, zu2, zu3, nIe, Nat.reduceSub, V0, v1, v2, p_dist, d2, ce2, hsh]
    exact hk'
  · have es : qSg pc st cell c = 0 := by unfold qSg; rw [d2, if_neg (by rw [nIi (by omega)]; omega), if_neg (fun q => ce2 ((nIe (by omega) (by omega)).mp q))]
    rw [es] at hsh hk'
    simp (disch := (first | omega | (simp (disch := omega) only [zu1, zu2, zu3, nIi, V0, v1, v2, p_dist, d2, ce2, hsh]; omega))) only [if_true, if_false, zE10, zE00, zOkN, Nat.reduceAdd, Nat.reduceMul, zcl_s, zif01, zbn_e, nIi, nI_clamp, nI_add, nI_1, pk_mul, zgi, zlt, zle, Int32.zero_add, Int32.add_zero, C0, C1, G0, G1, Nat.zero_add, Nat.add_zero, l2, l3, l4, l5, l6, l7, l8, l10, l11, l12, l20, l30, l48, l50, l60, l100, l120, l140, l152, l164, l176, l188, l200, l212, l224, l1604, l1880, l2000, l2008, l2016, l2024, l2032, l2040, l2048, l2210, l2240, l2270, l2300, l2330, l2390, l2450, l2510, l2570, l2590, l2620, l2650, l2660, l2700, T0, T1, Tm1, Tm99, Tm999, p_within, p_in, p_isCell, p_isOwner, p_isDay11, p_isDay12, p_isTap11, p_isTaker11, if_pos, if_neg, p_isTap12, p_isTaker12, p_isGone, zu1, zu2, zu3, nIe, Nat.reduceSub, V0, v1, v2, p_dist, d2, ce2, hsh]
    exact hk'
theorem s_shook {u : zWd} {N : Nat} {pc : Nat → Nat} {st : Nat → Int32} {M : Nat} (hM : M = 30) (hN : N ≤ 6) (hc : ∀ c, c < N → pc c < 30) (e : u 232 7 = nI N) (b1 : ∀ c, c < N → u 232 (2650 + c) = nI (pc c)) (b2 : ∀ c, c < N → u 232 (2660 + c) = st c) (b : Nat) : mX12_shook 231 (nI b) u = some (if ∀ t, t < M → ¬ u 232 (2590 + t) = 0 → qBu (qSg pc st t) (nI b) N = u 232 (2620 + t) then 1 else 0, u) := by
  have i10 : ((1 : Int32) = 0) = False := by simp
  have inner : ∀ (k6 : Int32 × Int32 × zWd → Option (Int32 × zWd)) (v4 : Int32) (t : Nat), t < 30 → mX12_shook_16 k6 231 (nI b) v4 (nI t) 0 0 u = if v4 = 0 then k6 (0, nI (t + 1), u) else if u 232 (2590 + t) = 0 then k6 (1, nI (t + 1), u) else if qBu (qSg pc st t) (nI b) N = u 232 (2620 + t) then k6 (1, nI (t + 1), u) else k6 (0, nI (t + 1), u) := by
    intro k6 v4 t ht
    unfold mX12_shook_16
    refine zlp_to (P := fun (c : Nat) (q : Int32 × Int32 × zWd) => q = (qBu (qSg pc st t) (nI b) c, nI c, u)) (n := N) (by unfold zFU; omega) ?_ rfl
    rintro c hcN q rfl k hk
    simp only [mX12_shook_16b, mX12_shook_153, mX12_shook_149, mX12_shook_154]
    by_cases ec : c = N
    · subst ec
      simp (disch := (first | omega | (simp (disch := omega) only [zu1, zu2, zu3, nIi, e]; omega))) only [if_true, if_false, zE10, zE00, zOkN, Nat.reduceAdd, Nat.reduceMul, zcl_s, zif01, zbn_e, nIi, nI_clamp, nI_add, nI_1, pk_mul, zgi, zlt, zle, Int32.zero_add, Int32.add_zero, C0, C1, G0, G1, Nat.zero_add, Nat.add_zero, l2, l3, l4, l5, l6, l7, l8, l10, l11, l12, l20, l30, l48, l50, l60, l100, l120, l140, l152, l164, l176, l188, l200, l212, l224, l1604, l1880, l2000, l2008, l2016, l2024, l2032, l2040, l2048, l2210, l2240, l2270, l2300, l2330, l2390, l2450, l2510, l2570, l2590, l2620, l2650, l2660, l2700, T0, T1, Tm1, Tm99, Tm999, p_within, p_in, p_isCell, p_isOwner, p_isDay11, p_isDay12, p_isTap11, p_isTaker11, if_pos, if_neg, p_isTap12, p_isTaker12, p_isGone, zu1, zu2, zu3, nIe, Nat.reduceSub, e]
    have hc2 : c < N := by omega
    have hk' := hk hc2 _ rfl
    have v1 := b1 c hc2
    have v2 := b2 c hc2
    obtain ⟨dd, d1, d2⟩ := qDs_n (hc c hc2) ht
    have d3 := (qDs_30 _ ht _ (hc c hc2)).2.2
    have sk : ∀ v, qSg pc st t c = v → mX12_shook_88 k6 k 231 (nI b) v4 (nI t) (qBu (qSg pc st t) (nI b) c) (nI c) v u = k (qBu (qSg pc st t) (nI b) (c + 1), nI (c + 1), u) := by
      intro v hv
      unfold mX12_shook_88 mX12_shook_108
      show (if qBit (nI b) c = 1 then _ else _) = _
      rcases qBit01 (nI b) (t := c) (by omega) with z | z
      · have es : qBu (qSg pc st t) (nI b) (c + 1) = qBu (qSg pc st t) (nI b) c := if_neg (by rw [z]; decide)
        rw [if_neg (by rw [z]; decide), zbn_e, Int32.add_zero, nI_succ, es]
      · have es : qBu (qSg pc st t) (nI b) (c + 1) = qBu (qSg pc st t) (nI b) c + qSg pc st t c := if_pos z
        rw [if_pos z, zbn_e, nI_succ, es, hv]
    by_cases ce : dd ≤ 1
    · have es : qSg pc st t c = st c := by unfold qSg; rw [d3, d2, if_pos (by rw [nIi (by omega)]; omega)]
      have sk' := sk _ es
      simp (disch := (first | omega | (simp (disch := omega) only [zu1, zu2, zu3, nIi, e, v1, v2, p_apart, d2, sk']; omega))) only [if_true, if_false, zE10, zE00, zOkN, Nat.reduceAdd, Nat.reduceMul, zcl_s, zif01, zbn_e, nIi, nI_clamp, nI_add, nI_1, pk_mul, zgi, zlt, zle, Int32.zero_add, Int32.add_zero, C0, C1, G0, G1, Nat.zero_add, Nat.add_zero, l2, l3, l4, l5, l6, l7, l8, l10, l11, l12, l20, l30, l48, l50, l60, l100, l120, l140, l152, l164, l176, l188, l200, l212, l224, l1604, l1880, l2000, l2008, l2016, l2024, l2032, l2040, l2048, l2210, l2240, l2270, l2300, l2330, l2390, l2450, l2510, l2570, l2590, l2620, l2650, l2660, l2700, T0, T1, Tm1, Tm99, Tm999, p_within, p_in, p_isCell, p_isOwner, p_isDay11, p_isDay12, p_isTap11, p_isTaker11, if_pos, if_neg, p_isTap12, p_isTaker12, p_isGone, zu1, zu2, zu3, nIe, Nat.reduceSub, e, v1, v2, p_apart, d2, sk']
      exact hk'
    by_cases ce2 : dd = 2
    · have es : qSg pc st t c = st c / nI 2 := by unfold qSg; rw [d3, d2, if_neg (by rw [nIi (by omega)]; omega), if_pos (by rw [ce2])]
      have sk' := sk _ es
      simp (disch := (first | omega | (simp (disch := omega) only [zu1, zu2, zu3, nIi, e, v1, v2, p_apart, d2, ce2, sk']; omega))) only [if_true, if_false, zE10, zE00, zOkN, Nat.reduceAdd, Nat.reduceMul, zcl_s, zif01, zbn_e, nIi, nI_clamp, nI_add, nI_1, pk_mul, zgi, zlt, zle, Int32.zero_add, Int32.add_zero, C0, C1, G0, G1, Nat.zero_add, Nat.add_zero, l2, l3, l4, l5, l6, l7, l8, l10, l11, l12, l20, l30, l48, l50, l60, l100, l120, l140, l152, l164, l176, l188, l200, l212, l224, l1604, l1880, l2000, l2008, l2016, l2024, l2032, l2040, l2048, l2210, l2240, l2270, l2300, l2330, l2390, l2450, l2510, l2570, l2590, l2620, l2650, l2660, l2700, T0, T1, Tm1, Tm99, Tm999, p_within, p_in, p_isCell, p_isOwner, p_isDay11, p_isDay12, p_isTap11, p_isTaker11, if_pos, if_neg, p_isTap12, p_isTaker12, p_isGone, zu1, zu2, zu3, nIe, Nat.reduceSub, e, v1, v2, p_apart, d2, ce2, sk']
      exact hk'
    · have es : qSg pc st t c = 0 := by unfold qSg; rw [d3, d2, if_neg (by rw [nIi (by omega)]; omega), if_neg (fun q => ce2 ((nIe (by omega) (by omega)).mp q))]
      have sk' := sk _ es
      simp (disch := (first | omega | (simp (disch := omega) only [zu1, zu2, zu3, nIi, e, v1, v2, p_apart, d2, ce2, sk']; omega))) only [if_true, if_false, zE10, zE00, zOkN, Nat.reduceAdd, Nat.reduceMul, zcl_s, zif01, zbn_e, nIi, nI_clamp, nI_add, nI_1, pk_mul, zgi, zlt, zle, Int32.zero_add, Int32.add_zero, C0, C1, G0, G1, Nat.zero_add, Nat.add_zero, l2, l3, l4, l5, l6, l7, l8, l10, l11, l12, l20, l30, l48, l50, l60, l100, l120, l140, l152, l164, l176, l188, l200, l212, l224, l1604, l1880, l2000, l2008, l2016, l2024, l2032, l2040, l2048, l2210, l2240, l2270, l2300, l2330, l2390, l2450, l2510, l2570, l2590, l2620, l2650, l2660, l2700, T0, T1, Tm1, Tm99, Tm999, p_within, p_in, p_isCell, p_isOwner, p_isDay11, p_isDay12, p_isTap11, p_isTaker11, if_pos, if_neg, p_isTap12, p_isTaker12, p_isGone, zu1, zu2, zu3, nIe, Nat.reduceSub, e, v1, v2, p_apart, d2, ce2, sk']
      exact hk'
  unfold mX12_shook mX12_shook_4
  refine zlp_to (P := fun (t : Nat) (q : Int32 × Int32 × zWd) => q = (if ∀ t', t' < t → ¬ u 232 (2590 + t') = 0 → qBu (qSg pc st t') (nI b) N = u 232 (2620 + t') then 1 else 0, nI t, u)) (n := 30) (by unfold zFU; omega) ?_ (by rw [if_pos (fun t' ht' => absurd ht' (by omega))]; rfl)
  rintro t ht q rfl k hk
  simp only [mX12_shook_4b]
  by_cases et : t = 30
  · subst et
    subst hM
    rw [if_pos (show (30 : Int32) ≤ nI 30 by decide), zgd_t (zBif _)]
  have hk' := hk (by omega) _ rfl
  have step : (∀ t', t' < t + 1 → ¬ u 232 (2590 + t') = 0 → qBu (qSg pc st t') (nI b) N = u 232 (2620 + t')) ↔ (∀ t', t' < t → ¬ u 232 (2590 + t') = 0 → qBu (qSg pc st t') (nI b) N = u 232 (2620 + t')) ∧ (¬ u 232 (2590 + t) = 0 → qBu (qSg pc st t) (nI b) N = u 232 (2620 + t)) := by
    refine ⟨fun q => ⟨fun t' h => q t' (by omega), q t (by omega)⟩, fun q t' h => ?_⟩
    by_cases ett : t' = t
    · rw [ett]; exact q.2
    · exact q.1 t' (by omega)
  rw [if_neg (show ¬ (30 : Int32) ≤ nI t from nI_ge (b := 30) (by omega) (by decide)), inner k _ t (by omega)]
  by_cases q : ∀ t', t' < t → ¬ u 232 (2590 + t') = 0 → qBu (qSg pc st t') (nI b) N = u 232 (2620 + t')
  · rw [if_pos q, if_neg (show ¬ (1 : Int32) = 0 by decide)]
    by_cases hm : u 232 (2590 + t) = 0
    · rw [if_pos hm]
      rw [if_pos (step.mpr ⟨q, fun z => absurd hm z⟩)] at hk'
      exact hk'
    · rw [if_neg hm]
      by_cases g : qBu (qSg pc st t) (nI b) N = u 232 (2620 + t)
      · rw [if_pos g]
        rw [if_pos (step.mpr ⟨q, fun _ => g⟩)] at hk'
        exact hk'
      · rw [if_neg g]
        rw [if_neg (fun z => g ((step.mp z).2 hm))] at hk'
        exact hk'
  · rw [if_neg q, if_pos rfl]
    rw [if_neg (fun z => q (step.mp z).1)] at hk'
    exact hk'
theorem u_shift {n : Nat} {w : zWd} (h : qInv n w) (what : Int32) : qBoth n w (mX11_shift 0 what) (mX12_shift 231 what) := by
  obtain ⟨N, hN, e1, e2⟩ := q_pushes h
  by_cases hw : 0 ≤ what.toInt ∧ what.toInt < 2
  rotate_left
  · exact qBoth_id h (-1) (by unfold mX11_shift; simp (disch := (first | omega | (simp (disch := omega) only [zu1, zu2, zu3, nIi, T2]; omega))) only [if_true, if_false, zE10, zE00, zOkN, Nat.reduceAdd, Nat.reduceMul, zcl_s, zif01, zbn_e, nIi, nI_clamp, nI_add, nI_1, pk_mul, zgi, zlt, zle, Int32.zero_add, Int32.add_zero, C0, C1, G0, G1, Nat.zero_add, Nat.add_zero, l2, l3, l4, l5, l6, l7, l8, l10, l11, l12, l20, l30, l48, l50, l60, l100, l120, l140, l152, l164, l176, l188, l200, l212, l224, l1604, l1880, l2000, l2008, l2016, l2024, l2032, l2040, l2048, l2210, l2240, l2270, l2300, l2330, l2390, l2450, l2510, l2570, l2590, l2620, l2650, l2660, l2700, T0, T1, Tm1, Tm99, Tm999, p_within, p_in, p_isCell, p_isOwner, p_isDay11, p_isDay12, p_isTap11, p_isTaker11, if_pos, if_neg, p_isTap12, p_isTaker12, p_isGone, zu1, zu2, zu3, nIe, Nat.reduceSub, T2]) (by unfold mX12_shift; simp (disch := (first | omega | (simp (disch := omega) only [zu1, zu2, zu3, nIi]; omega))) only [if_true, if_false, zE10, zE00, zOkN, Nat.reduceAdd, Nat.reduceMul, zcl_s, zif01, zbn_e, nIi, nI_clamp, nI_add, nI_1, pk_mul, zgi, zlt, zle, Int32.zero_add, Int32.add_zero, C0, C1, G0, G1, Nat.zero_add, Nat.add_zero, l2, l3, l4, l5, l6, l7, l8, l10, l11, l12, l20, l30, l48, l50, l60, l100, l120, l140, l152, l164, l176, l188, l200, l212, l224, l1604, l1880, l2000, l2008, l2016, l2024, l2032, l2040, l2048, l2210, l2240, l2270, l2300, l2330, l2390, l2450, l2510, l2570, l2590, l2620, l2650, l2660, l2700, T0, T1, Tm1, Tm99, Tm999, p_within, p_in, p_isCell, p_isOwner, p_isDay11, p_isDay12, p_isTap11, p_isTaker11, if_pos, if_neg, p_isTap12, p_isTaker12, p_isGone, zu1, zu2, zu3, nIe, Nat.reduceSub])
  have hpx : ∀ t, ∃ c : Nat, t < N → c < 30 ∧ w 101 t = nI c ∧ w 232 (2650 + t) = nI c := by
    intro t
    by_cases ht : t < N
    · obtain ⟨c, k1, k2, k3⟩ := qSc h 29 34 rfl rfl (by decide) (i := t) (by omega)
      simp only [Nat.zero_add, Nat.reduceAdd] at k2
      have k4 : c ≤ 29 := k1
      exact ⟨c, fun _ => ⟨by omega, k2, k3⟩⟩
    · exact ⟨0, fun q => absurd q ht⟩
  obtain ⟨pc, hpc⟩ := Classical.axiomOfChoice hpx
  have hst : ∀ t, t < N → w 102 t = w 232 (2660 + t) ∧ -99 ≤ (w 102 t).toInt ∧ (w 102 t).toInt ≤ 99 := fun t ht => by
    have q1 := qTo h 30 rfl (by decide) (i := t) (by omega)
    have q2 := qRg_at (qR1 h) 35 rfl (i := t) (by omega)
    simp only [Nat.zero_add, Nat.reduceAdd] at q1
    rw [q1]; exact ⟨rfl, q2⟩
  have hch : ∀ t, t < 30 → w 100 t = w 232 (2620 + t) ∧ -999 ≤ (w 100 t).toInt ∧ (w 100 t).toInt ≤ 999 := fun t ht => by
    have q1 := qTo h 28 rfl (by decide) (i := t) (by omega)
    have q2 := qRg_at (qR1 h) 33 rfl (i := t) (by omega)
    simp only [Nat.zero_add, Nat.reduceAdd] at q1
    rw [q1]; exact ⟨rfl, q2⟩
  obtain ⟨⟨hx0, hx1, hx4⟩, hdr⟩ := h.1.2.2.2.2.1
  rw [qVw_at w (by decide)] at hx0 hx1 hx4
  simp only [Nat.reduceAdd] at hx0 hx1 hx4
  have hdr2 : ∀ t, t < 30 → w 232 (2590 + t) = qBit (w 94 7) t := fun t ht => by
    have := hdr t ht
    rwa [qVw_at w (by decide)] at this
  have hcm : ∃ u Q, Q ≤ 6 ∧ mX11_shift 0 what w = some (qFrv (qFw (qEx u N Q) (2 ^ N)) what, u) ∧ qJ w u ∧ ∀ b, (qEx u N Q b = true ↔ ∀ t, t < 30 → qBit (w 94 7) t = 1 → (qAb (qBu (qSg pc (w 102) t) (nI b) N - w 100 t)).toInt ≤ (0 : Int32).toInt) := by
    have f0 : mX11_shift 0 what w = mX11_shift_30 0 what 0 (zup (zup (zup w 226 0 (nI N)) 226 1 0) 226 2 0) := by
      unfold mX11_shift
      have hsb := s_begin w (show N ≤ 8 by omega) 0
      simp (disch := (first | omega | (simp (disch := omega) only [zu1, zu2, zu3, nIi, T2, e1, hsb]; omega))) only [if_true, if_false, zE10, zE00, zOkN, Nat.reduceAdd, Nat.reduceMul, zcl_s, zif01, zbn_e, nIi, nI_clamp, nI_add, nI_1, pk_mul, zgi, zlt, zle, Int32.zero_add, Int32.add_zero, C0, C1, G0, G1, Nat.zero_add, Nat.add_zero, l2, l3, l4, l5, l6, l7, l8, l10, l11, l12, l20, l30, l48, l50, l60, l100, l120, l140, l152, l164, l176, l188, l200, l212, l224, l1604, l1880, l2000, l2008, l2016, l2024, l2032, l2040, l2048, l2210, l2240, l2270, l2300, l2330, l2390, l2450, l2510, l2570, l2590, l2620, l2650, l2660, l2700, T0, T1, Tm1, Tm99, Tm999, p_within, p_in, p_isCell, p_isOwner, p_isDay11, p_isDay12, p_isTap11, p_isTaker11, if_pos, if_neg, p_isTap12, p_isTaker12, p_isGone, zu1, zu2, zu3, nIe, Nat.reduceSub, T2, e1, hsb]
    rw [f0]
    unfold mX11_shift_30
    refine zlp_R (R := fun (Y : Option (Int32 × zWd)) => ∃ u Q, Q ≤ 6 ∧ Y = some (qFrv (qFw (qEx u N Q) (2 ^ N)) what, u) ∧ qJ w u ∧ ∀ b, (qEx u N Q b = true ↔ ∀ t, t < 30 → qBit (w 94 7) t = 1 → (qAb (qBu (qSg pc (w 102) t) (nI b) N - w 100 t)).toInt ≤ (0 : Int32).toInt))
      (P := fun (t : Nat) (q : Int32 × zWd) => ∃ (u : zWd) (Q : Nat), q = (nI t, u) ∧ qJ w u ∧ u 226 0 = nI N ∧ u 226 1 = 0 ∧ u 226 2 = nI Q ∧ qCnt (w 94 7) t = nI Q ∧ Q ≤ 6 ∧ ∀ b, (qEx u N Q b = true ↔ ∀ t', t' < t → qBit (w 94 7) t' = 1 → (qAb (qBu (qSg pc (w 102) t') (nI b) N - w 100 t')).toInt ≤ (0 : Int32).toInt)) (n := 30) (by unfold zFU; omega) ?_ ⟨_, 0, rfl, (((qJ.rf w).up (by decide) 0 (nI N)).up (by decide) 1 0).up (by decide) 2 0, ?_, ?_, ?_, rfl, by omega, fun b => ?_⟩
    rotate_left
    · rw [zu2 _ _ (by decide), zu2 _ _ (by decide), zu3]
    · rw [zu2 _ _ (by decide), zu3]
    · rw [zu3]; rfl
    · rw [qEx_s rfl]
      exact ⟨fun _ t' ht' => absurd ht' (by omega), fun _ i hi => absurd hi (by omega)⟩
    rintro t ht q ⟨u, Q, rfl, g1, g2, g3, g4, g6, g7, g8⟩ k hk
    simp only [mX11_shift_30b, mX11_shift_55]
    by_cases et : t = 30
    · subst et
      refine ⟨u, Q, g7, ?_, g1, g8⟩
      have ha := s_answer11 (show N ≤ 8 by omega) g7 g2 g4 what
      simp (disch := (first | omega | (simp (disch := omega) only [zu1, zu2, zu3, nIi, ha]; omega))) only [if_true, if_false, zE10, zE00, zOkN, Nat.reduceAdd, Nat.reduceMul, zcl_s, zif01, zbn_e, nIi, nI_clamp, nI_add, nI_1, pk_mul, zgi, zlt, zle, Int32.zero_add, Int32.add_zero, C0, C1, G0, G1, Nat.zero_add, Nat.add_zero, l2, l3, l4, l5, l6, l7, l8, l10, l11, l12, l20, l30, l48, l50, l60, l100, l120, l140, l152, l164, l176, l188, l200, l212, l224, l1604, l1880, l2000, l2008, l2016, l2024, l2032, l2040, l2048, l2210, l2240, l2270, l2300, l2330, l2390, l2450, l2510, l2570, l2590, l2620, l2650, l2660, l2700, T0, T1, Tm1, Tm99, Tm999, p_within, p_in, p_isCell, p_isOwner, p_isDay11, p_isDay12, p_isTap11, p_isTaker11, if_pos, if_neg, p_isTap12, p_isTaker12, p_isGone, zu1, zu2, zu3, nIe, Nat.reduceSub, ha]
    have ht2 : t < 30 := by omega
    have hbit := p_hasChange (u := u) (t := t) (by omega)
    rw [g1.lo (show 94 ≤ 205 ∨ _ by omega)] at hbit
    have ecn : qCnt (w 94 7) (t + 1) = qCnt (w 94 7) t + qBit (w 94 7) t := rfl
    have i10 : ((1 : Int32) = 0) = False := by simp
    rcases qBit01 (w 94 7) (t := t) (by omega) with z | z
    · rw [if_neg (by rw [z]; decide)] at hbit
      simp (disch := (first | omega | (simp (disch := omega) only [zu1, zu2, zu3, nIi, hbit]; omega))) only [if_true, if_false, zE10, zE00, zOkN, Nat.reduceAdd, Nat.reduceMul, zcl_s, zif01, zbn_e, nIi, nI_clamp, nI_add, nI_1, pk_mul, zgi, zlt, zle, Int32.zero_add, Int32.add_zero, C0, C1, G0, G1, Nat.zero_add, Nat.add_zero, l2, l3, l4, l5, l6, l7, l8, l10, l11, l12, l20, l30, l48, l50, l60, l100, l120, l140, l152, l164, l176, l188, l200, l212, l224, l1604, l1880, l2000, l2008, l2016, l2024, l2032, l2040, l2048, l2210, l2240, l2270, l2300, l2330, l2390, l2450, l2510, l2570, l2590, l2620, l2650, l2660, l2700, T0, T1, Tm1, Tm99, Tm999, p_within, p_in, p_isCell, p_isOwner, p_isDay11, p_isDay12, p_isTap11, p_isTaker11, if_pos, if_neg, p_isTap12, p_isTaker12, p_isGone, zu1, zu2, zu3, nIe, Nat.reduceSub, hbit]
      refine hk ht2 _ ⟨u, Q, rfl, g1, g2, g3, g4, by rw [ecn, z, Int32.add_zero]; exact g6, g7, fun b => ?_⟩
      rw [g8 b]
      refine ⟨fun q t' ht' hz => ?_, fun q t' ht' => q t' (by omega)⟩
      by_cases e : t' = t
      · rw [e, z] at hz; exact absurd hz (by decide)
      · exact q t' (by omega) hz
    · rw [if_pos z] at hbit
      have hq1 : qCnt (w 94 7) (t + 1) = nI (Q + 1) := by rw [ecn, z, g6, nI_1]
      obtain ⟨c', m1, m2, m3⟩ := qCnt_mo hq1 (29 - t) (by omega)
      rw [show t + 1 + (29 - t) = 30 by omega] at m1
      rw [m1, nIi (by omega)] at hx4
      obtain ⟨u', j1, j2⟩ := s_addChange (u := u) (N := N) (Q := Q) (cell := t) (pc := pc) (st := w 102) hN (by omega) ht2 (fun c hc => (hpc c hc).1) g2 g4 (fun c hc => by rw [g1.lo (by omega)]; exact (hpc c hc).2.1) (fun c hc => by rw [g1.lo (by omega)])
      simp (disch := (first | omega | (simp (disch := omega) only [zu1, zu2, zu3, nIi, hbit, i10, j1]; omega))) only [if_true, if_false, zE10, zE00, zOkN, Nat.reduceAdd, Nat.reduceMul, zcl_s, zif01, zbn_e, nIi, nI_clamp, nI_add, nI_1, pk_mul, zgi, zlt, zle, Int32.zero_add, Int32.add_zero, C0, C1, G0, G1, Nat.zero_add, Nat.add_zero, l2, l3, l4, l5, l6, l7, l8, l10, l11, l12, l20, l30, l48, l50, l60, l100, l120, l140, l152, l164, l176, l188, l200, l212, l224, l1604, l1880, l2000, l2008, l2016, l2024, l2032, l2040, l2048, l2210, l2240, l2270, l2300, l2330, l2390, l2450, l2510, l2570, l2590, l2620, l2650, l2660, l2700, T0, T1, Tm1, Tm99, Tm999, p_within, p_in, p_isCell, p_isOwner, p_isDay11, p_isDay12, p_isTap11, p_isTaker11, if_pos, if_neg, p_isTap12, p_isTaker12, p_isGone, zu1, zu2, zu3, nIe, Nat.reduceSub, hbit, i10, j1]
      refine hk ht2 _ ⟨u', Q + 1, rfl, g1.tr (qJ.du j2), j2.2.1.trans g2, j2.2.2.1.trans g3, j2.2.2.2.1, hq1, by omega, fun b => ?_⟩
      rw [qEx_du (by omega) g3 j2, g8 b, g1.lo (show 100 ≤ 205 ∨ _ by omega)]
      refine ⟨fun q t' ht' hz => ?_, fun q => ⟨fun t' ht' => q t' (by omega), q t (by omega) z⟩⟩
      by_cases e : t' = t
      · rw [e]; exact q.2
      · exact q.1 t' (by omega) hz
  obtain ⟨u, Q, hQ, c1, c2, c3⟩ := hcm
  have eu : u 232 = w 232 := c2.lo (by omega)
  have hL := s_shiftL (u := u) (N := N) (E := qEx u N Q) (by omega) (by rw [eu]; exact e2) what (fun b hb => by
    rw [s_shook (u := u) (pc := pc) (st := w 102) (M := 30) rfl hN (fun c hc => (hpc c hc).1) (by rw [eu]; exact e2) (fun c hc => by rw [eu]; exact (hpc c hc).2.2) (fun c hc => by rw [eu]; exact (hst c hc).1.symm) b]
    have hiff : (∀ t, t < 30 → ¬ u 232 (2590 + t) = 0 → qBu (qSg pc (w 102) t) (nI b) N = u 232 (2620 + t)) ↔ qEx u N Q b = true := by
      rw [c3 b, eu]
      have hqa : ∀ t, t < 30 → ((qAb (qBu (qSg pc (w 102) t) (nI b) N - w 100 t)).toInt ≤ (0 : Int32).toInt ↔ qBu (qSg pc (w 102) t) (nI b) N = w 232 (2620 + t)) := fun t ht => by
        have hb := qBu_bd (f := qSg pc (w 102) t) (x := nI b) N (by omega) (fun c hc => qSg_bd (hst c hc).2)
        have h2 := (hch t ht).2
        rw [qAb_0 (by omega) (by omega), (hch t ht).1]
      refine ⟨fun q t ht z => (hqa t ht).mpr (q t ht (by rw [hdr2 t ht, z]; decide)), fun q t ht z => (hqa t ht).mp (q t ht ?_)⟩
      rcases qBit01 (w 94 7) (t := t) (by omega) with z1 | z1
      · exact absurd ((hdr2 t ht).trans z1) z
      · exact z1
    by_cases c : qEx u N Q b = true
    · rw [if_pos c, if_pos (hiff.mpr c)]
    · rw [if_neg c, if_neg (fun q => c (hiff.mp q))])
  have m3 : mX12_shift 231 what u = mX12_shift_19 231 what (-5) 0 0 u := by unfold mX12_shift; simp (disch := (first | omega | (simp (disch := omega) only [zu1, zu2, zu3, nIi]; omega))) only [if_true, if_false, zE10, zE00, zOkN, Nat.reduceAdd, Nat.reduceMul, zcl_s, zif01, zbn_e, nIi, nI_clamp, nI_add, nI_1, pk_mul, zgi, zlt, zle, Int32.zero_add, Int32.add_zero, C0, C1, G0, G1, Nat.zero_add, Nat.add_zero, l2, l3, l4, l5, l6, l7, l8, l10, l11, l12, l20, l30, l48, l50, l60, l100, l120, l140, l152, l164, l176, l188, l200, l212, l224, l1604, l1880, l2000, l2008, l2016, l2024, l2032, l2040, l2048, l2210, l2240, l2270, l2300, l2330, l2390, l2450, l2510, l2570, l2590, l2620, l2650, l2660, l2700, T0, T1, Tm1, Tm99, Tm999, p_within, p_in, p_isCell, p_isOwner, p_isDay11, p_isDay12, p_isTap11, p_isTaker11, if_pos, if_neg, p_isTap12, p_isTaker12, p_isGone, zu1, zu2, zu3, nIe, Nat.reduceSub]
  exact qBoth_j h c1 (m3.trans hL) c2
