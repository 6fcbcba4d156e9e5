/-- BORES by numbers, 8 at most -/
def qLb (kd : Nat → Int32) : Nat → Nat × (Nat → Int32) → Nat × (Nat → Int32)
  | 0, s => s
  | t + 1, s => if 8 ≤ (qLb kd t s).1 then qLb kd t s else if kd t = 0 then qLb kd t s else ((qLb kd t s).1 + 1, upd (qLb kd t s).2 (qLb kd t s).1 (nI t))
section QLB
variable {kd : Nat → Int32} {A : Nat → Int32}
theorem qLb_8 {s : Nat × (Nat → Int32)} {t : Nat} (h : 8 ≤ (qLb kd t s).1) : ∀ m, qLb kd (t + m) s = qLb kd t s
  | 0 => rfl
  | m + 1 => by
    show qLb kd (t + m + 1) s = _
    conv => lhs; unfold qLb
    rw [qLb_8 h m, if_pos h]
theorem qLb_le : ∀ t, (qLb kd t (0, A)).1 ≤ 8
  | 0 => Nat.zero_le _
  | t + 1 => by
    have := qLb_le t
    unfold qLb
    by_cases c : 8 ≤ (qLb kd t (0, A)).1
    · rw [if_pos c]; exact this
    · rw [if_neg c]
      by_cases c2 : kd t = 0
      · rw [if_pos c2]; exact this
      · rw [if_neg c2]; simp only; omega
theorem qLb_v : ∀ t c, c < (qLb kd t (0, A)).1 → ∃ B, B < t ∧ (qLb kd t (0, A)).2 c = nI B
  | 0, c, h => by have : (qLb kd 0 (0, A)).1 = 0 := rfl; omega
  | t + 1, c, h => by
    unfold qLb at h ⊢
    by_cases c8 : 8 ≤ (qLb kd t (0, A)).1
    · rw [if_pos c8] at h ⊢
      obtain ⟨B, h1, h2⟩ := qLb_v t c h
      exact ⟨B, by omega, h2⟩
    · rw [if_neg c8] at h ⊢
      by_cases c2 : kd t = 0
      · rw [if_pos c2] at h ⊢
        obtain ⟨B, h1, h2⟩ := qLb_v t c h
        exact ⟨B, by omega, h2⟩
      · rw [if_neg c2] at h ⊢
        simp only at h ⊢
        by_cases e : c = (qLb kd t (0, A)).1
        · exact ⟨t, by omega, by rw [e, qu_eq]⟩
        · obtain ⟨B, h1, h2⟩ := qLb_v t c (by omega)
          exact ⟨B, by omega, by rw [qu_ne _ _ e]; exact h2⟩
theorem qLb_j {A' : Nat → Int32} : ∀ t, (qLb kd t (0, A)).1 = (qLb kd t (0, A')).1 ∧ ∀ c, c < (qLb kd t (0, A)).1 → (qLb kd t (0, A)).2 c = (qLb kd t (0, A')).2 c
  | 0 => ⟨rfl, fun c h => by have : (qLb kd 0 (0, A)).1 = 0 := rfl; omega⟩
  | t + 1 => by
    obtain ⟨h1, h2⟩ := @qLb_j A' t
    unfold qLb
    rw [h1] at h2 ⊢
    by_cases c8 : 8 ≤ (qLb kd t (0, A')).1
    · rw [if_pos c8, if_pos c8]; exact ⟨h1, fun c hc => h2 c (by rw [h1] at hc; exact hc)⟩
    · rw [if_neg c8, if_neg c8]
      by_cases c2 : kd t = 0
      · rw [if_pos c2, if_pos c2]; exact ⟨h1, fun c hc => h2 c (by rw [h1] at hc; exact hc)⟩
      · rw [if_neg c2, if_neg c2]
        refine ⟨rfl, fun c hc => ?_⟩
        simp only at hc ⊢
        by_cases e : c = (qLb kd t (0, A')).1
        · rw [e, qu_eq, qu_eq]
        · rw [qu_ne _ _ e, qu_ne _ _ e]; exact h2 c (by omega)
theorem qLb_c {kd' : Nat → Int32} {s : Nat × (Nat → Int32)} : ∀ t, (∀ i, i < t → kd i = kd' i) → qLb kd t s = qLb kd' t s
  | 0, _ => rfl
  | t + 1, h => by unfold qLb; rw [qLb_c t (fun i hi => h i (by omega)), h t (by omega)]
end QLB
theorem s_bores11 {u : zWd} {T : Nat} (hT : T ≤ 12) (e : u 2 1 = nI T) : mX0_listBores 2 230 u = some (nI (qLb (u 4) T (0, u 230)).1, qPw u 230 (qLb (u 4) T (0, u 230)).2) := by
  unfold mX0_listBores mX0_listBores_4
  refine zlp_to (P := fun (t : Nat) (q : Int32 × Int32 × zWd) => q = (nI (qLb (u 4) t (0, u 230)).1, nI t, qPw u 230 (qLb (u 4) t (0, u 230)).2)) (n := T) (by unfold zFU; omega) ?_ (by show _ = (nI 0, nI 0, qPw u 230 (u 230)); rw [qPw_s]; rfl)
  rintro t ht q rfl k hk
  simp only [mX0_listBores_4b, mX0_listBores_40, mX0_listBores_34]
  have hle := qLb_le (kd := u 4) (A := u 230) t
  by_cases et : t = T
  · subst et
    simp (disch := (first | omega | (simp (disch := omega) only [zu1, zu2, zu3, nIi, e, qPw_n]; omega))) only [if_true, if_false, zE10, zE00, zOkN, Nat.reduceAdd, Nat.reduceMul, zcl_s, zif01, zbn_e, nIi, nI_clamp, nI_add, nI_1, pk_mul, zgi, zlt, zle, Int32.zero_add, Int32.add_zero, C0, C1, G0, G1, Nat.zero_add, Nat.add_zero, l2, l3, l4, l5, l6, l7, l8, l10, l11, l12, l20, l30, l48, l50, l60, l100, l120, l140, l152, l164, l176, l188, l200, l212, l224, l1604, l1880, l2000, l2008, l2016, l2024, l2032, l2040, l2048, l2210, l2240, l2270, l2300, l2330, l2390, l2450, l2510, l2570, l2590, l2620, l2650, l2660, l2700, T0, T1, Tm1, Tm99, Tm999, p_within, p_in, p_isCell, p_isOwner, p_isDay11, p_isDay12, p_isTap11, p_isTaker11, if_pos, if_neg, p_isTap12, p_isTaker12, p_isGone, zu1, zu2, zu3, nIe, Nat.reduceSub, e, qPw_n]
  by_cases c8 : 8 ≤ (qLb (u 4) t (0, u 230)).1
  · have h3 := qLb_8 c8 (T - t)
    rw [show t + (T - t) = T by omega] at h3
    rw [h3]
    simp (disch := (first | omega | (simp (disch := omega) only [zu1, zu2, zu3, nIi, e, qPw_n]; omega))) only [if_true, if_false, zE10, zE00, zOkN, Nat.reduceAdd, Nat.reduceMul, zcl_s, zif01, zbn_e, nIi, nI_clamp, nI_add, nI_1, pk_mul, zgi, zlt, zle, Int32.zero_add, Int32.add_zero, C0, C1, G0, G1, Nat.zero_add, Nat.add_zero, l2, l3, l4, l5, l6, l7, l8, l10, l11, l12, l20, l30, l48, l50, l60, l100, l120, l140, l152, l164, l176, l188, l200, l212, l224, l1604, l1880, l2000, l2008, l2016, l2024, l2032, l2040, l2048, l2210, l2240, l2270, l2300, l2330, l2390, l2450, l2510, l2570, l2590, l2620, l2650, l2660, l2700, T0, T1, Tm1, Tm99, Tm999, p_within, p_in, p_isCell, p_isOwner, p_isDay11, p_isDay12, p_isTap11, p_isTaker11, if_pos, if_neg, p_isTap12, p_isTaker12, p_isGone, zu1, zu2, zu3, nIe, Nat.reduceSub, e, qPw_n]
  have hk' := hk (by omega) _ rfl
  by_cases c2 : u 4 t = 0
  · have est : qLb (u 4) (t + 1) (0, u 230) = qLb (u 4) t (0, u 230) := (if_neg c8).trans (if_pos c2)
    rw [est] at hk'
    simp (disch := (first | omega | (simp (disch := omega) only [zu1, zu2, zu3, nIi, e, qPw_n, c2]; omega))) only [if_true, if_false, zE10, zE00, zOkN, Nat.reduceAdd, Nat.reduceMul, zcl_s, zif01, zbn_e, nIi, nI_clamp, nI_add, nI_1, pk_mul, zgi, zlt, zle, Int32.zero_add, Int32.add_zero, C0, C1, G0, G1, Nat.zero_add, Nat.add_zero, l2, l3, l4, l5, l6, l7, l8, l10, l11, l12, l20, l30, l48, l50, l60, l100, l120, l140, l152, l164, l176, l188, l200, l212, l224, l1604, l1880, l2000, l2008, l2016, l2024, l2032, l2040, l2048, l2210, l2240, l2270, l2300, l2330, l2390, l2450, l2510, l2570, l2590, l2620, l2650, l2660, l2700, T0, T1, Tm1, Tm99, Tm999, p_within, p_in, p_isCell, p_isOwner, p_isDay11, p_isDay12, p_isTap11, p_isTaker11, if_pos, if_neg, p_isTap12, p_isTaker12, p_isGone, zu1, zu2, zu3, nIe, Nat.reduceSub, e, qPw_n, c2]
    exact hk'
  · have est : qLb (u 4) (t + 1) (0, u 230) = ((qLb (u 4) t (0, u 230)).1 + 1, upd (qLb (u 4) t (0, u 230)).2 (qLb (u 4) t (0, u 230)).1 (nI t)) := (if_neg c8).trans (if_neg c2)
    rw [est] at hk'
    simp (disch := (first | omega | (simp (disch := omega) only [zu1, zu2, zu3, nIi, e, qPw_n, c2, qPw_uu]; omega))) only [if_true, if_false, zE10, zE00, zOkN, Nat.reduceAdd, Nat.reduceMul, zcl_s, zif01, zbn_e, nIi, nI_clamp, nI_add, nI_1, pk_mul, zgi, zlt, zle, Int32.zero_add, Int32.add_zero, C0, C1, G0, G1, Nat.zero_add, Nat.add_zero, l2, l3, l4, l5, l6, l7, l8, l10, l11, l12, l20, l30, l48, l50, l60, l100, l120, l140, l152, l164, l176, l188, l200, l212, l224, l1604, l1880, l2000, l2008, l2016, l2024, l2032, l2040, l2048, l2210, l2240, l2270, l2300, l2330, l2390, l2450, l2510, l2570, l2590, l2620, l2650, l2660, l2700, T0, T1, Tm1, Tm99, Tm999, p_within, p_in, p_isCell, p_isOwner, p_isDay11, p_isDay12, p_isTap11, p_isTaker11, if_pos, if_neg, p_isTap12, p_isTaker12, p_isGone, zu1, zu2, zu3, nIe, Nat.reduceSub, e, qPw_n, c2, qPw_uu]
    exact hk'
theorem s_bores12 {u : zWd} {T : Nat} (hT : T ≤ 12) (e : u 232 1 = nI T) (d what : Int32) : mX12_cause_29 231 d what 0 0 u = mX12_cause_77 231 d what (nI (qLb (fun t => u 232 (140 + t)) T (0, u 247)).1) (qPw u 247 (qLb (fun t => u 232 (140 + t)) T (0, u 247)).2) := by
  unfold mX12_cause_29
  generalize hkd : (fun t => u 232 (140 + t)) = kd
  have hkd2 : ∀ t, u 232 (140 + t) = kd t := fun t => by rw [← hkd]
  refine zlp_to (P := fun (t : Nat) (q : Int32 × Int32 × zWd) => q = (nI (qLb kd t (0, u 247)).1, nI t, qPw u 247 (qLb kd t (0, u 247)).2)) (n := T) (by unfold zFU; omega) ?_ (by show _ = (nI 0, nI 0, qPw u 247 (u 247)); rw [qPw_s]; rfl)
  rintro t ht q rfl k hk
  simp only [mX12_cause_29b, mX12_cause_71]
  have hle := qLb_le (kd := kd) (A := u 247) t
  by_cases et : t = T
  · subst et
    simp (disch := (first | omega | (simp (disch := omega) only [zu1, zu2, zu3, nIi, e, qPw_n]; omega))) only [if_true, if_false, zE10, zE00, zOkN, Nat.reduceAdd, Nat.reduceMul, zcl_s, zif01, zbn_e, nIi, nI_clamp, nI_add, nI_1, pk_mul, zgi, zlt, zle, Int32.zero_add, Int32.add_zero, C0, C1, G0, G1, Nat.zero_add, Nat.add_zero, l2, l3, l4, l5, l6, l7, l8, l10, l11, l12, l20, l30, l48, l50, l60, l100, l120, l140, l152, l164, l176, l188, l200, l212, l224, l1604, l1880, l2000, l2008, l2016, l2024, l2032, l2040, l2048, l2210, l2240, l2270, l2300, l2330, l2390, l2450, l2510, l2570, l2590, l2620, l2650, l2660, l2700, T0, T1, Tm1, Tm99, Tm999, p_within, p_in, p_isCell, p_isOwner, p_isDay11, p_isDay12, p_isTap11, p_isTaker11, if_pos, if_neg, p_isTap12, p_isTaker12, p_isGone, zu1, zu2, zu3, nIe, Nat.reduceSub, e, qPw_n]
  by_cases c8 : 8 ≤ (qLb kd t (0, u 247)).1
  · have h3 := qLb_8 c8 (T - t)
    rw [show t + (T - t) = T by omega] at h3
    rw [h3]
    simp (disch := (first | omega | (simp (disch := omega) only [zu1, zu2, zu3, nIi, e, qPw_n]; omega))) only [if_true, if_false, zE10, zE00, zOkN, Nat.reduceAdd, Nat.reduceMul, zcl_s, zif01, zbn_e, nIi, nI_clamp, nI_add, nI_1, pk_mul, zgi, zlt, zle, Int32.zero_add, Int32.add_zero, C0, C1, G0, G1, Nat.zero_add, Nat.add_zero, l2, l3, l4, l5, l6, l7, l8, l10, l11, l12, l20, l30, l48, l50, l60, l100, l120, l140, l152, l164, l176, l188, l200, l212, l224, l1604, l1880, l2000, l2008, l2016, l2024, l2032, l2040, l2048, l2210, l2240, l2270, l2300, l2330, l2390, l2450, l2510, l2570, l2590, l2620, l2650, l2660, l2700, T0, T1, Tm1, Tm99, Tm999, p_within, p_in, p_isCell, p_isOwner, p_isDay11, p_isDay12, p_isTap11, p_isTaker11, if_pos, if_neg, p_isTap12, p_isTaker12, p_isGone, zu1, zu2, zu3, nIe, Nat.reduceSub, e, qPw_n]
  have hk' := hk (by omega) _ rfl
  by_cases c2 : kd t = 0
  · have est : qLb kd (t + 1) (0, u 247) = qLb kd t (0, u 247) := (if_neg c8).trans (if_pos c2)
    rw [est] at hk'
    simp (disch := (first | omega | (simp (disch := omega) only [zu1, zu2, zu3, nIi, e, qPw_n, hkd2, c2]; omega))) only [if_true, if_false, zE10, zE00, zOkN, Nat.reduceAdd, Nat.reduceMul, zcl_s, zif01, zbn_e, nIi, nI_clamp, nI_add, nI_1, pk_mul, zgi, zlt, zle, Int32.zero_add, Int32.add_zero, C0, C1, G0, G1, Nat.zero_add, Nat.add_zero, l2, l3, l4, l5, l6, l7, l8, l10, l11, l12, l20, l30, l48, l50, l60, l100, l120, l140, l152, l164, l176, l188, l200, l212, l224, l1604, l1880, l2000, l2008, l2016, l2024, l2032, l2040, l2048, l2210, l2240, l2270, l2300, l2330, l2390, l2450, l2510, l2570, l2590, l2620, l2650, l2660, l2700, T0, T1, Tm1, Tm99, Tm999, p_within, p_in, p_isCell, p_isOwner, p_isDay11, p_isDay12, p_isTap11, p_isTaker11, if_pos, if_neg, p_isTap12, p_isTaker12, p_isGone, zu1, zu2, zu3, nIe, Nat.reduceSub, e, qPw_n, hkd2, c2]
    exact hk'
  · have est : qLb kd (t + 1) (0, u 247) = ((qLb kd t (0, u 247)).1 + 1, upd (qLb kd t (0, u 247)).2 (qLb kd t (0, u 247)).1 (nI t)) := (if_neg c8).trans (if_neg c2)
    rw [est] at hk'
    simp (disch := (first | omega | (simp (disch := omega) only [zu1, zu2, zu3, nIi, e, qPw_n, hkd2, c2, qPw_uu]; omega))) only [if_true, if_false, zE10, zE00, zOkN, Nat.reduceAdd, Nat.reduceMul, zcl_s, zif01, zbn_e, nIi, nI_clamp, nI_add, nI_1, pk_mul, zgi, zlt, zle, Int32.zero_add, Int32.add_zero, C0, C1, G0, G1, Nat.zero_add, Nat.add_zero, l2, l3, l4, l5, l6, l7, l8, l10, l11, l12, l20, l30, l48, l50, l60, l100, l120, l140, l152, l164, l176, l188, l200, l212, l224, l1604, l1880, l2000, l2008, l2016, l2024, l2032, l2040, l2048, l2210, l2240, l2270, l2300, l2330, l2390, l2450, l2510, l2570, l2590, l2620, l2650, l2660, l2700, T0, T1, Tm1, Tm99, Tm999, p_within, p_in, p_isCell, p_isOwner, p_isDay11, p_isDay12, p_isTap11, p_isTaker11, if_pos, if_neg, p_isTap12, p_isTaker12, p_isGone, zu1, zu2, zu3, nIe, Nat.reduceSub, e, qPw_n, hkd2, c2, qPw_uu]
    exact hk'
theorem qDs_30 : ∀ a, a < 30 → ∀ b, b < 30 → 0 ≤ (qDs (nI a) (nI b)).toInt ∧ (qDs (nI a) (nI b)).toInt ≤ 9 ∧ qDs (nI a) (nI b) = qDs (nI b) (nI a) := by decide +kernel
theorem qDs_n {a b : Nat} (ha : a < 30) (hb : b < 30) : ∃ k, k ≤ 9 ∧ qDs (nI a) (nI b) = nI k := by
  obtain ⟨h1, h2, _⟩ := qDs_30 a ha b hb
  obtain ⟨k, k1, k2, k3, _⟩ := qNat (x := qDs (nI a) (nI b)) ⟨h1, h2⟩ (by decide)
  exact ⟨k, by omega, k1⟩
/-- what a bore does to a tap -/
def qSh (B cl : Nat → Nat) (tn : Nat → Int32) (t c : Nat) : Int32 := if B c = t then 0 else tn (B c) / (qDs (nI (cl t)) (nI (cl (B c))) + 1)
theorem s_addDrop {u : zWd} {N Q T t : Nat} {B cl : Nat → Nat} {tn : Nat → Int32} (hN : N ≤ 8) (hQ : Q < 6) (hT : T ≤ 12) (ht : t < T) (hB : ∀ c, c < N → B c < T) (hc : ∀ t, t < T → cl t < 30) (c0 : u 226 0 = nI N) (c2 : u 226 2 = nI Q) (b1 : ∀ c, c < N → u 230 c = nI (B c)) (b2 : ∀ t, t < T → u 5 t = nI (cl t)) (b3 : ∀ t, t < T → u 6 t = tn t) : ∃ u', mX11_addDrop 0 (nI t) u = some ((), u') ∧ qDu u u' N Q (u 99 t) (qSh B cl tn t) := by
  refine ⟨_, ?_, qDu_of u (u 99 t) (qSh B cl tn t)⟩
  unfold mX11_addDrop
  have hd := s_due (u := u) hQ c2 (u 99 t)
  simp (disch := (first | omega | (simp (disch := omega) only [zu1, zu2, zu3, nIi, hd]; omega))) only [if_true, if_false, zE10, zE00, zOkN, Nat.reduceAdd, Nat.reduceMul, zcl_s, zif01, zbn_e, nIi, nI_clamp, nI_add, nI_1, pk_mul, zgi, zlt, zle, Int32.zero_add, Int32.add_zero, C0, C1, G0, G1, Nat.zero_add, Nat.add_zero, l2, l3, l4, l5, l6, l7, l8, l10, l11, l12, l20, l30, l48, l50, l60, l100, l120, l140, l152, l164, l176, l188, l200, l212, l224, l1604, l1880, l2000, l2008, l2016, l2024, l2032, l2040, l2048, l2210, l2240, l2270, l2300, l2330, l2390, l2450, l2510, l2570, l2590, l2620, l2650, l2660, l2700, T0, T1, Tm1, Tm99, Tm999, p_within, p_in, p_isCell, p_isOwner, p_isDay11, p_isDay12, p_isTap11, p_isTaker11, if_pos, if_neg, p_isTap12, p_isTaker12, p_isGone, zu1, zu2, zu3, nIe, Nat.reduceSub, hd]
  unfold mX11_addDrop_21
  have q0 : qPw (zup (zup u 227 Q (u 99 t)) 226 2 (nI (Q + 1))) 228 (u 228) = zup (zup u 227 Q (u 99 t)) 226 2 (nI (Q + 1)) := by
    conv => lhs; rw [show u 228 = zup (zup u 227 Q (u 99 t)) 226 2 (nI (Q + 1)) 228 by rw [zpE _ _ _ (by decide), zpE _ _ _ (by decide)]]
    exact qPw_s _ _
  refine zlp_to (P := fun (c : Nat) (q : Int32 × zWd) => q = (nI c, qPw (zup (zup u 227 Q (u 99 t)) 226 2 (nI (Q + 1))) 228 (qUp (fun c => 8 * Q + c) (qSh B cl tn t) c (u 228)))) (n := N) (by unfold zFU; omega) ?_ (by show _ = (nI 0, qPw (zup (zup u 227 Q (u 99 t)) 226 2 (nI (Q + 1))) 228 (u 228)); rw [q0]; rfl)
  rintro c hcN q rfl k hk
  simp only [mX11_addDrop_21b, mX11_addDrop_99]
  generalize hV : qPw (zup (zup u 227 Q (u 99 t)) 226 2 (nI (Q + 1))) 228 (qUp (fun c => 8 * Q + c) (qSh B cl tn t) c (u 228)) = V at *
  have V0 : V 226 0 = nI N := by rw [← hV, qPw_n _ _ (by decide), zu2 _ _ (by decide), zpE _ _ _ (by decide)]; exact c0
  have V2 : V 226 2 = nI (Q + 1) := by rw [← hV, qPw_n _ _ (by decide), zu3]
  have Vo : ∀ a, a ≠ 226 → a ≠ 227 → a ≠ 228 → V a = u a := fun a h1 h2 h3 => by rw [← hV, qPw_n _ _ h3, zpE _ _ _ h1, zpE _ _ _ h2]
  by_cases e : c = N
  · subst e
    simp (disch := (first | omega | (simp (disch := omega) only [zu1, zu2, zu3, nIi, V0]; omega))) only [if_true, if_false, zE10, zE00, zOkN, Nat.reduceAdd, Nat.reduceMul, zcl_s, zif01, zbn_e, nIi, nI_clamp, nI_add, nI_1, pk_mul, zgi, zlt, zle, Int32.zero_add, Int32.add_zero, C0, C1, G0, G1, Nat.zero_add, Nat.add_zero, l2, l3, l4, l5, l6, l7, l8, l10, l11, l12, l20, l30, l48, l50, l60, l100, l120, l140, l152, l164, l176, l188, l200, l212, l224, l1604, l1880, l2000, l2008, l2016, l2024, l2032, l2040, l2048, l2210, l2240, l2270, l2300, l2330, l2390, l2450, l2510, l2570, l2590, l2620, l2650, l2660, l2700, T0, T1, Tm1, Tm99, Tm999, p_within, p_in, p_isCell, p_isOwner, p_isDay11, p_isDay12, p_isTap11, p_isTaker11, if_pos, if_neg, p_isTap12, p_isTaker12, p_isGone, zu1, zu2, zu3, nIe, Nat.reduceSub, V0]
    exact hV.symm ▸ rfl
  have hc2 : c < N := by omega
  have v1 : V 230 c = nI (B c) := by rw [Vo 230 (by decide) (by decide) (by decide)]; exact b1 c hc2
  have v2 : V 5 t = nI (cl t) := by rw [Vo 5 (by decide) (by decide) (by decide)]; exact b2 t ht
  have hBc := hB c hc2
  have v3 : V 5 (B c) = nI (cl (B c)) := by rw [Vo 5 (by decide) (by decide) (by decide)]; exact b2 _ hBc
  have v4 : V 6 (B c) = tn (B c) := by rw [Vo 6 (by decide) (by decide) (by decide)]; exact b3 _ hBc
  obtain ⟨dd, d1, d2⟩ := qDs_n (hc t ht) (hc _ hBc)
  have hsh := s_share (u := V) (c := c) hQ (by omega) V2 (qSh B cl tn t c)
  have hk' := hk hc2 (nI (c + 1), zup V 228 (8 * Q + c) (qSh B cl tn t c)) (by rw [← hV, qPw_uu]; rfl)
  have n0 : ¬ (nI (dd + 1) : Int32) = 0 := fun q => by rw [show (0 : Int32) = nI 0 from rfl, nIe (by omega) (by omega)] at q; omega
  by_cases ce : B c = t
  · have es : qSh B cl tn t c = 0 := if_pos ce
    rw [es] at hsh hk'
    simp (disch := (first | omega | (simp (disch := omega) only [zu1, zu2, zu3, nIi, V0, v1, v2, v3, p_dist, ce, hsh]; omega))) only [if_true, if_false, zE10, zE00, zOkN, Nat.reduceAdd, Nat.reduceMul, zcl_s, zif01, zbn_e, nIi, nI_clamp, nI_add, nI_1, pk_mul, zgi, zlt, zle, Int32.zero_add, Int32.add_zero, C0, C1, G0, G1, Nat.zero_add, Nat.add_zero, l2, l3, l4, l5, l6, l7, l8, l10, l11, l12, l20, l30, l48, l50, l60, l100, l120, l140, l152, l164, l176, l188, l200, l212, l224, l1604, l1880, l2000, l2008, l2016, l2024, l2032, l2040, l2048, l2210, l2240, l2270, l2300, l2330, l2390, l2450, l2510, l2570, l2590, l2620, l2650, l2660, l2700, T0, T1, Tm1, Tm99, Tm999, p_within, p_in, p_isCell, p_isOwner, p_isDay11, p_isDay12, p_isTap11, p_isTaker11, if_pos, if_neg, p_isTap12, p_isTaker12, p_isGone, zu1, zu2, zu3, nIe, Nat.reduceSub, V0, v1, v2, v3, p_dist, ce, hsh]
    exact hk'
  · have es : qSh B cl tn t c = tn (B c) / nI (dd + 1) := by
      unfold qSh; rw [if_neg ce, d2, nI_1]
    rw [es] at hsh hk'
    simp (disch := (first | omega | (simp (disch := omega) only [zu1, zu2, zu3, nIi, V0, v1, v2, v3, v4, p_dist, ce, d2, zgd_t n0, hsh]; omega))) only [if_true, if_false, zE10, zE00, zOkN, Nat.reduceAdd, Nat.reduceMul, zcl_s, zif01, zbn_e, nIi, nI_clamp, nI_add, nI_1, pk_mul, zgi, zlt, zle, Int32.zero_add, Int32.add_zero, C0, C1, G0, G1, Nat.zero_add, Nat.add_zero, l2, l3, l4, l5, l6, l7, l8, l10, l11, l12, l20, l30, l48, l50, l60, l100, l120, l140, l152, l164, l176, l188, l200, l212, l224, l1604, l1880, l2000, l2008, l2016, l2024, l2032, l2040, l2048, l2210, l2240, l2270, l2300, l2330, l2390, l2450, l2510, l2570, l2590, l2620, l2650, l2660, l2700, T0, T1, Tm1, Tm99, Tm999, p_within, p_in, p_isCell, p_isOwner, p_isDay11, p_isDay12, p_isTap11, p_isTaker11, if_pos, if_neg, p_isTap12, p_isTaker12, p_isGone, zu1, zu2, zu3, nIe, Nat.reduceSub, V0, v1, v2, v3, v4, p_dist, ce, d2, zgd_t n0, hsh]
    exact hk'
