/-- the sum of those whose bit is set -/
def qBu (f : Nat → Int32) (x : Int32) : Nat → Int32
  | 0 => 0
  | c + 1 => if qBit x c = 1 then qBu f x c + f c else qBu f x c
theorem qBu_c {f g : Nat → Int32} {x : Int32} : ∀ n, (∀ c, c < n → f c = g c) → qBu f x n = qBu g x n
  | 0, _ => rfl
  | n + 1, h => by unfold qBu; rw [qBu_c n (fun c hc => h c (by omega)), h n (by omega)]
theorem qUp_at {o : Nat → Nat} {v : Nat → Int32} {P : Nat → Int32} : ∀ i c, c < i → (∀ j j', j < i → j' < i → o j = o j' → j = j') → qUp o v i P (o c) = v c
  | 0, c, hc, _ => by omega
  | i + 1, c, hc, h => by
    unfold qUp
    by_cases e : c = i
    · rw [e, qu_eq]
    · rw [qu_ne _ _ (fun q => e (h c i hc (by omega) q))]
      exact qUp_at i c (by omega) (fun j j' hj hj' => h j j' (by omega) (by omega))
theorem qUp_n {o : Nat → Nat} {v : Nat → Int32} {P : Nat → Int32} {t : Nat} : ∀ i, (∀ j, j < i → o j ≠ t) → qUp o v i P t = P t
  | 0, _ => rfl
  | i + 1, h => by
    unfold qUp
    rw [qu_ne _ _ (Ne.symm (h i (by omega)))]
    exact qUp_n i (fun j hj => h j (by omega))
/-- how many bits a set has -/
def qPc (b : Nat) : Int32 := qCnt (nI b) 8
theorem qPc_n {b : Nat} (hb : b < 256) : ∃ c, c ≤ 8 ∧ qPc b = nI c := qCnt_nat 8 (by decide)
theorem qPc_32 {b : Nat} (hb : b < 256) : qCnt (nI b) 32 = qPc b := qCnt_top (by decide) ⟨by rw [nIi (by omega)]; omega, by rw [nIi (by omega)]; omega⟩
theorem qPc_12 {b : Nat} (hb : b < 256) : qCnt (nI b) 12 = qPc b := by
  have h1 := qCnt_top (x := nI b) (k := 12) (by decide) ⟨by rw [nIi (by omega)]; omega, by rw [nIi (by omega)]; omega⟩
  rw [← h1]; exact qPc_32 hb
theorem s_count1 {b : Nat} (hb : b < 256) (w : zWd) : mX12_count1 (nI b) w = some (qPc b, w) := by
  rw [← qPc_12 hb]
  unfold mX12_count1 mX12_count1_4
  refine zlp_to (P := fun (i : Nat) (q : Int32 × Int32 × zWd) => q = (qCnt (nI b) i, nI i, w)) (n := 12) (by unfold zFU; omega) ?_ rfl
  rintro i hi q rfl k hk
  simp only [mX12_count1_4b]
  by_cases e : i = 12
  · subst e
    rw [if_pos (by decide)]
  · rw [if_neg (show ¬ (12 : Int32) ≤ nI i from nI_ge (b := 12) (by omega) (by decide)), zbn_e]
    exact hk (by omega) _ (by rw [← nI_succ]; rfl)
/-- FEWEST and RIVALS of the sets before b -/
def qFw (E : Nat → Bool) : Nat → Option (Nat × Nat)
  | 0 => none
  | b + 1 => match qFw E b with
    | none => if E b then some (b, 1) else none
    | some (B, m) => if E b then (if (qPc b).toInt < (qPc B).toInt then some (b, 1) else if qPc b = qPc B then some (B, m + 1) else some (B, m)) else some (B, m)
theorem qFw_b {E : Nat → Bool} : ∀ b B m, qFw E b = some (B, m) → B < b ∧ m ≤ b
  | 0, B, m, h => by simp [qFw] at h
  | b + 1, B, m, h => by
    unfold qFw at h
    match e : qFw E b with
    | none =>
      rw [e] at h
      simp only at h
      by_cases c : E b = true
      · rw [if_pos c] at h
        simp only [Option.some.injEq, Prod.mk.injEq] at h
        omega
      · rw [if_neg c] at h; cases h
    | some (B0, m0) =>
      have ih := qFw_b b B0 m0 e
      rw [e] at h
      simp only at h
      by_cases c : E b = true
      · rw [if_pos c] at h
        by_cases c2 : (qPc b).toInt < (qPc B0).toInt
        · rw [if_pos c2] at h; simp only [Option.some.injEq, Prod.mk.injEq] at h; omega
        · rw [if_neg c2] at h
          by_cases c3 : qPc b = qPc B0
          · rw [if_pos c3] at h; simp only [Option.some.injEq, Prod.mk.injEq] at h; omega
          · rw [if_neg c3] at h; simp only [Option.some.injEq, Prod.mk.injEq] at h; omega
      · rw [if_neg c] at h; simp only [Option.some.injEq, Prod.mk.injEq] at h; omega
theorem qFw_c {E E' : Nat → Bool} : ∀ n, (∀ b, b < n → E b = E' b) → qFw E n = qFw E' n
  | 0, _ => rfl
  | n + 1, h => by unfold qFw; rw [qFw_c n (fun b hb => h b (by omega)), h n (by omega)]
def qFrv (r : Option (Nat × Nat)) (what : Int32) : Int32 := match r with
  | none => -5
  | some (B, m) => if what = 0 then nI B else nI m
theorem shl_pow : ∀ n, n < 9 → ((1 : Int32) <<< (nI n &&& 31)) = nI (2 ^ n) := by decide +kernel
theorem pow_256 {n : Nat} (h : n ≤ 8) : 2 ^ n ≤ 256 := Nat.pow_le_pow_right (by decide) h
/-- what is explained, in the class -/
def qEx (u : zWd) (N Q : Nat) (b : Nat) : Bool := decide (∀ i, i < Q → (qAb (qBu (fun c => u 228 (8 * i + c)) (nI b) N - u 227 i)).toInt ≤ (u 226 1).toInt)
theorem s_explains11 {u : zWd} {N Q : Nat} (hN : N ≤ 8) (hQ : Q ≤ 6) (c0 : u 226 0 = nI N) (c2 : u 226 2 = nI Q) (b : Nat) : mX7_explains 226 (nI b) u = some (if qEx u N Q b = true then 1 else 0, u) := by
  have inner : ∀ (k2 : Int32 × zWd → Option (Int32 × zWd)) (i : Nat), i < Q → mX7_explains_15 k2 226 (nI b) (nI i) 0 0 u = if (qAb (qBu (fun c => u 228 (8 * i + c)) (nI b) N - u 227 i)).toInt ≤ (u 226 1).toInt then k2 (nI (i + 1), u) else some (0, u) := by
    intro k2 i hi
    unfold mX7_explains_15
    refine zlp_to (P := fun (c : Nat) (q : Int32 × Int32 × zWd) => q = (qBu (fun c => u 228 (8 * i + c)) (nI b) c, nI c, u)) (n := N) (by unfold zFU; omega) ?_ rfl
    rintro c hc q rfl k hk
    simp only [mX7_explains_15b, mX7_explains_48]
    by_cases e : c = N
    · subst e
      simp (disch := (first | omega | (simp (disch := omega) only [zu1, zu2, zu3, nIi, c0, ab_c, zgd_t zB0]; omega))) only [if_true, if_false, zE10, zE00, zOkN, Nat.reduceAdd, Nat.reduceMul, zcl_s, zif01, zbn_e, nIi, nI_clamp, nI_add, nI_1, pk_mul, zgi, zlt, zle, Int32.zero_add, Int32.add_zero, C0, C1, G0, G1, Nat.zero_add, Nat.add_zero, l2, l3, l4, l5, l6, l7, l8, l10, l11, l12, l20, l30, l48, l50, l60, l100, l120, l140, l152, l164, l176, l188, l200, l212, l224, l1604, l1880, l2000, l2008, l2016, l2024, l2032, l2040, l2048, l2210, l2240, l2270, l2300, l2330, l2390, l2450, l2510, l2570, l2590, l2620, l2650, l2660, l2700, T0, T1, Tm1, Tm99, Tm999, p_within, p_in, p_isCell, p_isOwner, p_isDay11, p_isDay12, p_isTap11, p_isTaker11, if_pos, if_neg, p_isTap12, p_isTaker12, p_isGone, zu1, zu2, zu3, nIe, Nat.reduceSub, c0, ab_c, zgd_t zB0]
    have hk' := hk (by omega) _ rfl
    have e8 : nI i * 8 = nI (8 * i) := by rw [show (8 : Int32) = nI 8 from rfl, pk_mul, Nat.mul_comm]
    rw [if_neg (show ¬ u 226 0 ≤ nI c by rw [c0]; exact nI_ge (by omega) (by omega))]
    show (if qBit (nI b) c = 0 then _ else _) = _
    rcases qBit01 (nI b) (t := c) (by omega) with z | z
    · have es : qBu (fun c => u 228 (8 * i + c)) (nI b) (c + 1) = qBu (fun c => u 228 (8 * i + c)) (nI b) c := if_neg (by rw [z]; decide)
      rw [es, nI_succ] at hk'
      rw [if_pos z]
      exact hk'
    · have es : qBu (fun c => u 228 (8 * i + c)) (nI b) (c + 1) = qBu (fun c => u 228 (8 * i + c)) (nI b) c + u 228 (8 * i + c) := if_pos z
      rw [es, nI_succ] at hk'
      rw [if_neg (by rw [z]; decide), e8, nI_add, zgd_t (show zin (nI (8 * i + c)) 48 from vp_in_nI (by omega) (by decide)), zbn_e]
      simp only [Nat.reduceAdd, nI_clamp (show 8 * i + c < 2 ^ 31 by omega)]
      exact hk'
  unfold mX7_explains mX7_explains_2 qEx
  by_cases hm : ∀ i, i < Q → (qAb (qBu (fun c => u 228 (8 * i + c)) (nI b) N - u 227 i)).toInt ≤ (u 226 1).toInt
  · rw [if_pos (decide_eq_true hm)]
    refine zlp_to (P := fun (i : Nat) (q : Int32 × zWd) => q = (nI i, u)) (n := Q) (by unfold zFU; omega) ?_ rfl
    rintro i hi q rfl k hk
    simp only [mX7_explains_2b]
    by_cases e : i = Q
    · subst e
      simp (disch := (first | omega | (simp (disch := omega) only [zu1, zu2, zu3, nIi, c2, zgd_t zB1]; omega))) only [if_true, if_false, zE10, zE00, zOkN, Nat.reduceAdd, Nat.reduceMul, zcl_s, zif01, zbn_e, nIi, nI_clamp, nI_add, nI_1, pk_mul, zgi, zlt, zle, Int32.zero_add, Int32.add_zero, C0, C1, G0, G1, Nat.zero_add, Nat.add_zero, l2, l3, l4, l5, l6, l7, l8, l10, l11, l12, l20, l30, l48, l50, l60, l100, l120, l140, l152, l164, l176, l188, l200, l212, l224, l1604, l1880, l2000, l2008, l2016, l2024, l2032, l2040, l2048, l2210, l2240, l2270, l2300, l2330, l2390, l2450, l2510, l2570, l2590, l2620, l2650, l2660, l2700, T0, T1, Tm1, Tm99, Tm999, p_within, p_in, p_isCell, p_isOwner, p_isDay11, p_isDay12, p_isTap11, p_isTaker11, if_pos, if_neg, p_isTap12, p_isTaker12, p_isGone, zu1, zu2, zu3, nIe, Nat.reduceSub, c2, zgd_t zB1]
    · rw [if_neg (show ¬ u 226 2 ≤ nI i by rw [c2]; exact nI_ge (by omega) (by omega)), inner k i (by omega), if_pos (hm i (by omega))]
      exact hk (by omega) _ rfl
  · rw [if_neg (by rw [decide_eq_false hm]; decide)]
    refine zlp_to (P := fun (i : Nat) (q : Int32 × zWd) => q = (nI i, u) ∧ ∀ j, j < i → (qAb (qBu (fun c => u 228 (8 * j + c)) (nI b) N - u 227 j)).toInt ≤ (u 226 1).toInt) (n := Q) (by unfold zFU; omega) ?_ ⟨rfl, fun j hj => by omega⟩
    rintro i hi q ⟨rfl, hn⟩ k hk
    simp only [mX7_explains_2b]
    by_cases e : i = Q
    · subst e
      exact absurd hn hm
    · rw [if_neg (show ¬ u 226 2 ≤ nI i by rw [c2]; exact nI_ge (by omega) (by omega)), inner k i (by omega)]
      by_cases g : (qAb (qBu (fun c => u 228 (8 * i + c)) (nI b) N - u 227 i)).toInt ≤ (u 226 1).toInt
      · rw [if_pos g]
        refine hk (by omega) _ ⟨rfl, fun j hj => ?_⟩
        by_cases ej : j = i
        · rw [ej]; exact g
        · exact hn j (by omega)
      · rw [if_neg g]
theorem s_answer11 {u : zWd} {N Q : Nat} (hN : N ≤ 8) (hQ : Q ≤ 6) (c0 : u 226 0 = nI N) (c2 : u 226 2 = nI Q) (what : Int32) : mX7_answer 226 what u = some (qFrv (qFw (qEx u N Q) (2 ^ N)) what, u) := by
  have h256 := pow_256 hN
  unfold mX7_answer mX7_answer_13
  refine zlp_to (P := fun (b : Nat) (q : Int32 × Int32 × Int32 × Int32 × zWd) => (qFw (qEx u N Q) b = none ∧ q = (-5, -5, 9, nI b, u)) ∨ ∃ B m, qFw (qEx u N Q) b = some (B, m) ∧ q = (nI B, nI m, qPc B, nI b, u)) (n := 2 ^ N) (by unfold zFU; omega) ?_ (Or.inl ⟨rfl, rfl⟩)
  rintro b hb q hq k hk
  by_cases e : b = 2 ^ N
  · rcases hq with ⟨h1, rfl⟩ | ⟨B, m, h1, rfl⟩
    · simp only [mX7_answer_13b, mX7_answer_84]
      rw [if_pos (show ((1 : Int32) <<< ((u 226 0) &&& 31)) ≤ nI b by rw [c0, shl_pow N (by omega)]; exact nI_le (by omega) (by omega)), ← e, h1]
      unfold qFrv
      simp only [ite_self]
    · simp only [mX7_answer_13b, mX7_answer_84]
      rw [if_pos (show ((1 : Int32) <<< ((u 226 0) &&& 31)) ≤ nI b by rw [c0, shl_pow N (by omega)]; exact nI_le (by omega) (by omega)), ← e, h1]
      unfold qFrv
      by_cases c : what = 0
      · simp only [if_pos c]
      · simp only [if_neg c]
  have hb2 : b < 2 ^ N := by omega
  have hbc : mJ6_bitCount_0f7a4 (nI b) u = some (qPc b, u) := by rw [bc_w, qPc_32 (by omega)]
  have hex := s_explains11 hN hQ c0 c2 b
  obtain ⟨p, hp, ep⟩ := qPc_n (b := b) (by omega)
  have i10 : ¬ ((1 : Int32) = 0) := by decide
  have hk' := fun x hx => hk hb2 x hx
  rcases hq with ⟨h1, rfl⟩ | ⟨B, m, h1, rfl⟩
  · simp only [mX7_answer_13b, mX7_answer_69, mX7_answer_66]
    rw [if_neg (show ¬ ((1 : Int32) <<< ((u 226 0) &&& 31)) ≤ nI b by rw [c0, shl_pow N (by omega)]; exact nI_ge hb2 (by omega)), hbc, zcl_s, if_neg (show ¬ (9 : Int32) < qPc b by rw [ep, zlt, T9, nIi (by omega)]; omega), hex, zcl_s]
    have est : qFw (qEx u N Q) (b + 1) = if qEx u N Q b = true then some (b, 1) else none := by
      conv => lhs; unfold qFw
      rw [h1]
    by_cases c : qEx u N Q b = true
    · rw [if_pos c, if_neg i10, if_neg (show ¬ (9 : Int32) ≤ qPc b by rw [ep, zle, T9, nIi (by omega)]; omega), ← nI_succ]
      exact hk' _ (Or.inr ⟨b, 1, by rw [est, if_pos c], rfl⟩)
    · rw [if_neg c, if_pos rfl, ← nI_succ]
      exact hk' _ (Or.inl ⟨by rw [est, if_neg c], rfl⟩)
  · obtain ⟨hB, hm⟩ := qFw_b b B m h1
    simp only [mX7_answer_13b, mX7_answer_69, mX7_answer_66]
    rw [if_neg (show ¬ ((1 : Int32) <<< ((u 226 0) &&& 31)) ≤ nI b by rw [c0, shl_pow N (by omega)]; exact nI_ge hb2 (by omega)), hbc, zcl_s, ← nI_succ]
    have est : qFw (qEx u N Q) (b + 1) = if qEx u N Q b = true then (if (qPc b).toInt < (qPc B).toInt then some (b, 1) else if qPc b = qPc B then some (B, m + 1) else some (B, m)) else some (B, m) := by
      conv => lhs; unfold qFw
      rw [h1]
    by_cases c1 : qPc B < qPc b
    · rw [if_pos c1]
      rw [zlt] at c1
      refine hk' _ (Or.inr ⟨B, m, ?_, rfl⟩)
      rw [est, if_neg (show ¬ (qPc b).toInt < (qPc B).toInt by omega), if_neg (show ¬ qPc b = qPc B from fun q => by rw [q] at c1; omega)]
      simp only [ite_self]
    rw [if_neg c1, hex, zcl_s]
    rw [zlt] at c1
    by_cases c : qEx u N Q b = true
    · rw [if_pos c, if_neg i10]
      rw [if_pos c] at est
      by_cases c2 : qPc B ≤ qPc b
      · rw [if_pos c2, ← nI_succ]
        rw [zle] at c2
        refine hk' _ (Or.inr ⟨B, m + 1, ?_, rfl⟩)
        rw [est, if_neg (by omega), if_pos (Int32.toInt_inj.mp (by omega))]
      · rw [if_neg c2]
        rw [zle] at c2
        refine hk' _ (Or.inr ⟨b, 1, ?_, rfl⟩)
        rw [est, if_pos (by omega)]
    · rw [if_neg c, if_pos rfl]
      exact hk' _ (Or.inr ⟨B, m, by rw [est, if_neg c], rfl⟩)
/-- a share is added -/
theorem s_share {u : zWd} {Q c : Nat} (hQ : Q < 6) (hc : c < 8) (e : u 226 2 = nI (Q + 1)) (v : Int32) : mX7_addShare 226 (nI c) v u = some ((), zup u 228 (8 * Q + c) v) := by
  have e1 : nI (Q + 1) - 1 = nI Q := nI_p1
  have i10 : ((1 : Int32) = 0) = False := by simp
  unfold mX7_addShare mX7_addShare_33
  simp (disch := (first | omega | (simp (disch := omega) only [zu1, zu2, zu3, nIi, e, e1, i10, show Q * 8 + c = 8 * Q + c by omega]; omega))) only [if_true, if_false, zE10, zE00, zOkN, Nat.reduceAdd, Nat.reduceMul, zcl_s, zif01, zbn_e, nIi, nI_clamp, nI_add, nI_1, pk_mul, zgi, zlt, zle, Int32.zero_add, Int32.add_zero, C0, C1, G0, G1, Nat.zero_add, Nat.add_zero, l2, l3, l4, l5, l6, l7, l8, l10, l11, l12, l20, l30, l48, l50, l60, l100, l120, l140, l152, l164, l176, l188, l200, l212, l224, l1604, l1880, l2000, l2008, l2016, l2024, l2032, l2040, l2048, l2210, l2240, l2270, l2300, l2330, l2390, l2450, l2510, l2570, l2590, l2620, l2650, l2660, l2700, T0, T1, Tm1, Tm99, Tm999, p_within, p_in, p_isCell, p_isOwner, p_isDay11, p_isDay12, p_isTap11, p_isTaker11, if_pos, if_neg, p_isTap12, p_isTaker12, p_isGone, zu1, zu2, zu3, nIe, Nat.reduceSub, e, e1, i10, show Q * 8 + c = 8 * Q + c by omega]
theorem s_due {u : zWd} {Q : Nat} (hQ : Q < 6) (e : u 226 2 = nI Q) (v : Int32) : mX7_addDue 226 v u = some ((), zup (zup u 227 Q v) 226 2 (nI (Q + 1))) := by
  unfold mX7_addDue mX7_addDue_29
  simp (disch := (first | omega | (simp (disch := omega) only [zu1, zu2, zu3, nIi, e]; omega))) only [if_true, if_false, zE10, zE00, zOkN, Nat.reduceAdd, Nat.reduceMul, zcl_s, zif01, zbn_e, nIi, nI_clamp, nI_add, nI_1, pk_mul, zgi, zlt, zle, Int32.zero_add, Int32.add_zero, C0, C1, G0, G1, Nat.zero_add, Nat.add_zero, l2, l3, l4, l5, l6, l7, l8, l10, l11, l12, l20, l30, l48, l50, l60, l100, l120, l140, l152, l164, l176, l188, l200, l212, l224, l1604, l1880, l2000, l2008, l2016, l2024, l2032, l2040, l2048, l2210, l2240, l2270, l2300, l2330, l2390, l2450, l2510, l2570, l2590, l2620, l2650, l2660, l2700, T0, T1, Tm1, Tm99, Tm999, p_within, p_in, p_isCell, p_isOwner, p_isDay11, p_isDay12, p_isTap11, p_isTaker11, if_pos, if_neg, p_isTap12, p_isTaker12, p_isGone, zu1, zu2, zu3, nIe, Nat.reduceSub, e]
/-- a due with its shares -/
def qDu (u u' : zWd) (N Q : Nat) (v : Int32) (sh : Nat → Int32) : Prop := (∀ a, a ≠ 226 → a ≠ 227 → a ≠ 228 → u' a = u a) ∧ u' 226 0 = u 226 0 ∧ u' 226 1 = u 226 1 ∧ u' 226 2 = nI (Q + 1) ∧ (∀ i, i < Q → u' 227 i = u 227 i) ∧ u' 227 Q = v ∧ (∀ j, j < 8 * Q → u' 228 j = u 228 j) ∧ ∀ c, c < N → u' 228 (8 * Q + c) = sh c
theorem qDu_of (u : zWd) {N Q : Nat} (v : Int32) (sh : Nat → Int32) : qDu u (qPw (zup (zup u 227 Q v) 226 2 (nI (Q + 1))) 228 (qUp (fun c => 8 * Q + c) sh N (u 228))) N Q v sh := by
  refine ⟨fun a h1 h2 h3 => ?_, ?_, ?_, ?_, fun i hi => ?_, ?_, fun j hj => ?_, fun c hc => ?_⟩
  · rw [qPw_n _ _ h3, zpE _ _ _ h1, zpE _ _ _ h2]
  · rw [qPw_n _ _ (by decide), zu2 _ _ (by decide), zpE _ _ _ (by decide)]
  · rw [qPw_n _ _ (by decide), zu2 _ _ (by decide), zpE _ _ _ (by decide)]
  · rw [qPw_n _ _ (by decide), zu3]
  · rw [qPw_n _ _ (by decide), zpE _ _ _ (by decide), zu2 _ _ (by omega)]
  · rw [qPw_n _ _ (by decide), zpE _ _ _ (by decide), zu3]
  · rw [qPw_e]; exact qUp_n N (fun j' _ => by omega)
  · rw [qPw_e]; exact qUp_at N c hc (fun j j' _ _ => by omega)
theorem qEx_s {u : zWd} {N Q b : Nat} {d : Int32} (h1 : u 226 1 = d) : (qEx u N Q b = true) ↔ ∀ i, i < Q → (qAb (qBu (fun c => u 228 (8 * i + c)) (nI b) N - u 227 i)).toInt ≤ d.toInt := by
  unfold qEx; rw [h1]; exact decide_eq_true_iff
theorem qEx_du {u u' : zWd} {N Q b : Nat} {d v : Int32} {sh : Nat → Int32} (hN : N ≤ 8) (h1 : u 226 1 = d) (h : qDu u u' N Q v sh) : (qEx u' N (Q + 1) b = true) ↔ (qEx u N Q b = true ∧ (qAb (qBu sh (nI b) N - v)).toInt ≤ d.toInt) := by
  obtain ⟨_, _, g1, _, g3, g4, g5, g6⟩ := h
  rw [qEx_s (g1.trans h1), qEx_s h1]
  have e1 : ∀ i, i < Q → qBu (fun c => u' 228 (8 * i + c)) (nI b) N - u' 227 i = qBu (fun c => u 228 (8 * i + c)) (nI b) N - u 227 i := fun i hi => by
    rw [g3 i hi, qBu_c N (g := fun c => u 228 (8 * i + c)) (fun c hc => g5 _ (by omega))]
  have e2 : qBu (fun c => u' 228 (8 * Q + c)) (nI b) N - u' 227 Q = qBu sh (nI b) N - v := by
    rw [g4, qBu_c N (g := sh) (fun c hc => g6 c hc)]
  refine ⟨fun q => ⟨fun i hi => by rw [← e1 i hi]; exact q i (by omega), by rw [← e2]; exact q Q (by omega)⟩, fun q i hi => ?_⟩
  by_cases ei : i = Q
  · rw [ei, e2]; exact q.2
  · rw [e1 i (by omega)]; exact q.1 i (by omega)
theorem qJ.du {u u' : zWd} {N Q : Nat} {v : Int32} {sh : Nat → Int32} (h : qDu u u' N Q v sh) : qJ u u' := by
  refine ⟨fun k hk hj => h.1 k ?_ ?_ ?_, fun j _ => by rw [h.1 231 (by decide) (by decide) (by decide)]⟩ <;> (rintro rfl; exact absurd hj (by decide))
theorem s_begin (u : zWd) {N : Nat} (hN : N ≤ 8) (d : Int32) : mX7_begin 226 (nI N) d u = some ((), zup (zup (zup u 226 0 (nI N)) 226 1 d) 226 2 0) := by
  unfold mX7_begin
  simp (disch := (first | omega | (simp (disch := omega) only [zu1, zu2, zu3, nIi]; omega))) only [if_true, if_false, zE10, zE00, zOkN, Nat.reduceAdd, Nat.reduceMul, zcl_s, zif01, zbn_e, nIi, nI_clamp, nI_add, nI_1, pk_mul, zgi, zlt, zle, Int32.zero_add, Int32.add_zero, C0, C1, G0, G1, Nat.zero_add, Nat.add_zero, l2, l3, l4, l5, l6, l7, l8, l10, l11, l12, l20, l30, l48, l50, l60, l100, l120, l140, l152, l164, l176, l188, l200, l212, l224, l1604, l1880, l2000, l2008, l2016, l2024, l2032, l2040, l2048, l2210, l2240, l2270, l2300, l2330, l2390, l2450, l2510, l2570, l2590, l2620, l2650, l2660, l2700, T0, T1, Tm1, Tm99, Tm999, p_within, p_in, p_isCell, p_isOwner, p_isDay11, p_isDay12, p_isTap11, p_isTaker11, if_pos, if_neg, p_isTap12, p_isTaker12, p_isGone, zu1, zu2, zu3, nIe, Nat.reduceSub]
