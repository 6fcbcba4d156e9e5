/-- the best place among the cells before c -/
def qBp (ok : Nat → Bool) (V : Nat → Int32) : Nat → Int32 × Int32
  | 0 => (-5, -1)
  | c + 1 => if ok c = true ∧ (qBp ok V c).2.toInt < (V c).toInt then (nI c, V c) else qBp ok V c
/-- .. of the model's cells, but where no tap is yet -/
def qKw (w u : zWd) (T : Nat) : Prop := (∀ k, k ≠ 231 → k ≠ 232 → qJc k = false → u k = w k) ∧ (∀ j, j < 10 ∨ 14 < j → u 231 j = w 231 j) ∧ ∀ j, j ≠ 140 + T → j ≠ 152 + T → j ≠ 164 + T → j ≠ 188 + T → u 232 j = w 232 j
theorem u_place {n : Nat} {w : zWd} (h : qInv n w) (m : Int32) : qBoth n w (mX11_place 0 m) (mX12_place 231 m) := by
  obtain ⟨D, hD, d1, d2⟩ := q_today h
  obtain ⟨T, hT, e1, e2⟩ := q_taps h
  have e2i : (w 232 1).toInt = T := by rw [e2, nIi (by omega)]
  by_cases hm : 1 ≤ m.toInt ∧ m.toInt ≤ 500
  rotate_left
  · refine qBoth_id h (-2) ?_ (by unfold mX12_place; simp (disch := (first | omega | (simp (disch := omega) only [zu1, zu2, zu3, nIi, T500]; omega))) only [if_true, if_false, zE10, zE00, zOkN, Nat.reduceAdd, Nat.reduceMul, zcl_s, zif01, zbn_e, nIi, nI_clamp, nI_add, nI_1, pk_mul, zgi, zlt, zle, Int32.zero_add, Int32.add_zero, C0, C1, G0, G1, Nat.zero_add, Nat.add_zero, l2, l3, l4, l5, l6, l7, l8, l10, l11, l12, l20, l30, l48, l50, l60, l100, l120, l140, l152, l164, l176, l188, l200, l212, l224, l1604, l1880, l2000, l2008, l2016, l2024, l2032, l2040, l2048, l2210, l2240, l2270, l2300, l2330, l2390, l2450, l2510, l2570, l2590, l2620, l2650, l2660, l2700, T0, T1, Tm1, Tm99, Tm999, p_within, p_in, p_isCell, p_isOwner, p_isDay11, p_isDay12, p_isTap11, p_isTaker11, if_pos, if_neg, p_isTap12, p_isTaker12, p_isGone, zu1, zu2, zu3, nIe, Nat.reduceSub, T500])
    unfold mX11_place mX11_place_12
    by_cases c : m.toInt < 1
    · simp (disch := (first | omega | (simp (disch := omega) only [zu1, zu2, zu3, nIi]; omega))) only [if_true, if_false, zE10, zE00, zOkN, Nat.reduceAdd, Nat.reduceMul, zcl_s, zif01, zbn_e, nIi, nI_clamp, nI_add, nI_1, pk_mul, zgi, zlt, zle, Int32.zero_add, Int32.add_zero, C0, C1, G0, G1, Nat.zero_add, Nat.add_zero, l2, l3, l4, l5, l6, l7, l8, l10, l11, l12, l20, l30, l48, l50, l60, l100, l120, l140, l152, l164, l176, l188, l200, l212, l224, l1604, l1880, l2000, l2008, l2016, l2024, l2032, l2040, l2048, l2210, l2240, l2270, l2300, l2330, l2390, l2450, l2510, l2570, l2590, l2620, l2650, l2660, l2700, T0, T1, Tm1, Tm99, Tm999, p_within, p_in, p_isCell, p_isOwner, p_isDay11, p_isDay12, p_isTap11, p_isTaker11, if_pos, if_neg, p_isTap12, p_isTaker12, p_isGone, zu1, zu2, zu3, nIe, Nat.reduceSub]
    · simp (disch := (first | omega | (simp (disch := omega) only [zu1, zu2, zu3, nIi, T500]; omega))) only [if_true, if_false, zE10, zE00, zOkN, Nat.reduceAdd, Nat.reduceMul, zcl_s, zif01, zbn_e, nIi, nI_clamp, nI_add, nI_1, pk_mul, zgi, zlt, zle, Int32.zero_add, Int32.add_zero, C0, C1, G0, G1, Nat.zero_add, Nat.add_zero, l2, l3, l4, l5, l6, l7, l8, l10, l11, l12, l20, l30, l48, l50, l60, l100, l120, l140, l152, l164, l176, l188, l200, l212, l224, l1604, l1880, l2000, l2008, l2016, l2024, l2032, l2040, l2048, l2210, l2240, l2270, l2300, l2330, l2390, l2450, l2510, l2570, l2590, l2620, l2650, l2660, l2700, T0, T1, Tm1, Tm99, Tm999, p_within, p_in, p_isCell, p_isOwner, p_isDay11, p_isDay12, p_isTap11, p_isTaker11, if_pos, if_neg, p_isTap12, p_isTaker12, p_isGone, zu1, zu2, zu3, nIe, Nat.reduceSub, T500]
  have l400 : (400 : Int32).toInt = 400 := rfl
  by_cases hT12 : T = 12
  · refine qBoth_id h (-3) ?_ ?_
    · unfold mX11_place mX11_place_45
      simp (disch := (first | omega | (simp (disch := omega) only [zu1, zu2, zu3, nIi, T500, e1, T12]; omega))) only [if_true, if_false, zE10, zE00, zOkN, Nat.reduceAdd, Nat.reduceMul, zcl_s, zif01, zbn_e, nIi, nI_clamp, nI_add, nI_1, pk_mul, zgi, zlt, zle, Int32.zero_add, Int32.add_zero, C0, C1, G0, G1, Nat.zero_add, Nat.add_zero, l2, l3, l4, l5, l6, l7, l8, l10, l11, l12, l20, l30, l48, l50, l60, l100, l120, l140, l152, l164, l176, l188, l200, l212, l224, l1604, l1880, l2000, l2008, l2016, l2024, l2032, l2040, l2048, l2210, l2240, l2270, l2300, l2330, l2390, l2450, l2510, l2570, l2590, l2620, l2650, l2660, l2700, T0, T1, Tm1, Tm99, Tm999, p_within, p_in, p_isCell, p_isOwner, p_isDay11, p_isDay12, p_isTap11, p_isTaker11, if_pos, if_neg, p_isTap12, p_isTaker12, p_isGone, zu1, zu2, zu3, nIe, Nat.reduceSub, T500, e1, T12]
    · unfold mX12_place mX12_place_39
      simp (disch := (first | omega | (simp (disch := omega) only [zu1, zu2, zu3, nIi, T500, e2, l12]; omega))) only [if_true, if_false, zE10, zE00, zOkN, Nat.reduceAdd, Nat.reduceMul, zcl_s, zif01, zbn_e, nIi, nI_clamp, nI_add, nI_1, pk_mul, zgi, zlt, zle, Int32.zero_add, Int32.add_zero, C0, C1, G0, G1, Nat.zero_add, Nat.add_zero, l2, l3, l4, l5, l6, l7, l8, l10, l11, l12, l20, l30, l48, l50, l60, l100, l120, l140, l152, l164, l176, l188, l200, l212, l224, l1604, l1880, l2000, l2008, l2016, l2024, l2032, l2040, l2048, l2210, l2240, l2270, l2300, l2330, l2390, l2450, l2510, l2570, l2590, l2620, l2650, l2660, l2700, T0, T1, Tm1, Tm99, Tm999, p_within, p_in, p_isCell, p_isOwner, p_isDay11, p_isDay12, p_isTap11, p_isTaker11, if_pos, if_neg, p_isTap12, p_isTaker12, p_isGone, zu1, zu2, zu3, nIe, Nat.reduceSub, T500, e2, l12]
  have hT2 : T < 12 := by omega
  have nT12 : ¬ (nI T : Int32) = nI 12 := fun q => hT12 ((nIe (by omega) (by omega)).mp q)
  have a5 : nI D + nI 5 = nI (D + 5) := nI_add D 5
  by_cases hD5 : D + 5 ≤ 400
  rotate_left
  · refine qBoth_id h (-3) ?_ ?_
    · unfold mX11_place mX11_place_45
      simp (disch := (first | omega | (simp (disch := omega) only [zu1, zu2, zu3, nIi, T500, e1, T12, d1, T400]; omega))) only [if_true, if_false, zE10, zE00, zOkN, Nat.reduceAdd, Nat.reduceMul, zcl_s, zif01, zbn_e, nIi, nI_clamp, nI_add, nI_1, pk_mul, zgi, zlt, zle, Int32.zero_add, Int32.add_zero, C0, C1, G0, G1, Nat.zero_add, Nat.add_zero, l2, l3, l4, l5, l6, l7, l8, l10, l11, l12, l20, l30, l48, l50, l60, l100, l120, l140, l152, l164, l176, l188, l200, l212, l224, l1604, l1880, l2000, l2008, l2016, l2024, l2032, l2040, l2048, l2210, l2240, l2270, l2300, l2330, l2390, l2450, l2510, l2570, l2590, l2620, l2650, l2660, l2700, T0, T1, Tm1, Tm99, Tm999, p_within, p_in, p_isCell, p_isOwner, p_isDay11, p_isDay12, p_isTap11, p_isTaker11, if_pos, if_neg, p_isTap12, p_isTaker12, p_isGone, zu1, zu2, zu3, nIe, Nat.reduceSub, T500, e1, T12, d1, T400]
    · unfold mX12_place mX12_place_39
      simp (disch := (first | omega | (simp (disch := omega) only [zu1, zu2, zu3, nIi, T500, e2, l12, nT12, d2, T400]; omega))) only [if_true, if_false, zE10, zE00, zOkN, Nat.reduceAdd, Nat.reduceMul, zcl_s, zif01, zbn_e, nIi, nI_clamp, nI_add, nI_1, pk_mul, zgi, zlt, zle, Int32.zero_add, Int32.add_zero, C0, C1, G0, G1, Nat.zero_add, Nat.add_zero, l2, l3, l4, l5, l6, l7, l8, l10, l11, l12, l20, l30, l48, l50, l60, l100, l120, l140, l152, l164, l176, l188, l200, l212, l224, l1604, l1880, l2000, l2008, l2016, l2024, l2032, l2040, l2048, l2210, l2240, l2270, l2300, l2330, l2390, l2450, l2510, l2570, l2590, l2620, l2650, l2660, l2700, T0, T1, Tm1, Tm99, Tm999, p_within, p_in, p_isCell, p_isOwner, p_isDay11, p_isDay12, p_isTap11, p_isTaker11, if_pos, if_neg, p_isTap12, p_isTaker12, p_isGone, zu1, zu2, zu3, nIe, Nat.reduceSub, T500, e2, l12, nT12, d2, T400]
  obtain ⟨cl, hP, hR, k1, hsh, h3, hk, h8⟩ := q_gr h hT e2
  have hT3 := (h.1.2.2.1 T hT2).2 (by rw [e2i]; omega)
  rw [qVw_at w (by decide)] at hT3
  have hbx : ∀ c, ∃ b : Bool, (∀ u, qRc w u → mX10_mayBe 1 1 (nI c) 1 u = some (if b then 1 else 0, u)) ∧ ∀ u, u 232 = w 232 → ∃ u', mX12_mayBe 231 (nI c) 1 1 u = some (if b then 1 else 0, u') ∧ qS1 u u' := fun c => s_mayBe h 1 (nI c) 1
  obtain ⟨may, hmay⟩ := Classical.axiomOfChoice hbx
  have hox : ∀ c, ∃ b : Bool, (b = true ↔ ¬ (∃ t, t < T ∧ w 5 t = nI c) ∧ may c = true) := fun c => by
    rcases Classical.em (¬ (∃ t, t < T ∧ w 5 t = nI c) ∧ may c = true) with q | q
    · exact ⟨true, by simp [q]⟩
    · exact ⟨false, by simp only [Bool.false_eq_true, false_iff]; exact q⟩
  obtain ⟨ok, hok⟩ := Classical.axiomOfChoice hox
  have i10 : ¬ ((1 : Int32) = 0) := by decide
  -- the class
  have hcl : ∃ u, mX11_place 0 m w = some ((qBp ok (fun c => yPv w cl T c m) 30).1, u) ∧ qJ w u := by
    have f0 : mX11_place 0 m w = mX11_place_56 0 m (-5) (-1) 0 w := by
      unfold mX11_place
      simp (disch := (first | omega | (simp (disch := omega) only [zu1, zu2, zu3, nIi, T500, e1, T12, d1, T400]; omega))) only [if_true, if_false, zE10, zE00, zOkN, Nat.reduceAdd, Nat.reduceMul, zcl_s, zif01, zbn_e, nIi, nI_clamp, nI_add, nI_1, pk_mul, zgi, zlt, zle, Int32.zero_add, Int32.add_zero, C0, C1, G0, G1, Nat.zero_add, Nat.add_zero, l2, l3, l4, l5, l6, l7, l8, l10, l11, l12, l20, l30, l48, l50, l60, l100, l120, l140, l152, l164, l176, l188, l200, l212, l224, l1604, l1880, l2000, l2008, l2016, l2024, l2032, l2040, l2048, l2210, l2240, l2270, l2300, l2330, l2390, l2450, l2510, l2570, l2590, l2620, l2650, l2660, l2700, T0, T1, Tm1, Tm99, Tm999, p_within, p_in, p_isCell, p_isOwner, p_isDay11, p_isDay12, p_isTap11, p_isTaker11, if_pos, if_neg, p_isTap12, p_isTaker12, p_isGone, zu1, zu2, zu3, nIe, Nat.reduceSub, T500, e1, T12, d1, T400]
    rw [f0]
    unfold mX11_place_56
    refine zlp_R (R := fun (Y : Option (Int32 × zWd)) => ∃ u, Y = some ((qBp ok (fun c => yPv w cl T c m) 30).1, u) ∧ qJ w u)
      (P := fun (c : Nat) (q : Int32 × Int32 × Int32 × zWd) => ∃ u, q = ((qBp ok (fun c => yPv w cl T c m) c).1, (qBp ok (fun c => yPv w cl T c m) c).2, nI c, u) ∧ qJ w u) (n := 30) (by unfold zFU; omega) ?_ ⟨w, rfl, qJ.rf w⟩
    rintro c hc q ⟨u, rfl, g1⟩ k hkk
    simp only [mX11_place_56b, mX11_place_116, Nat.reduceAdd]
    by_cases e : c = 30
    · subst e
      rw [if_pos (by decide)]
      exact ⟨u, rfl, g1⟩
    have hc2 : c < 30 := by omega
    have rc := g1.rc
    have u21 : u 2 1 = nI T := by rw [rc 2 (by omega) (by omega)]; exact e1
    have u5 : u 5 = w 5 := rc 5 (by omega) (by omega)
    have ht := s_hasTap11 hT u21 (nI c)
    rw [u5] at ht
    have hst : qBp ok (fun c => yPv w cl T c m) (c + 1) = if ok c = true ∧ (qBp ok (fun c => yPv w cl T c m) c).2.toInt < (yPv w cl T c m).toInt then (nI c, yPv w cl T c m) else qBp ok (fun c => yPv w cl T c m) c := rfl
    rw [if_neg (show ¬ (30 : Int32) ≤ nI c from nI_ge (b := 30) (by omega) (by decide)), ht, zcl_s, ← nI_succ]
    by_cases x1 : ∃ t, t < T ∧ w 5 t = nI c
    · rw [if_pos x1, if_neg i10]
      have no : ¬ ok c = true := fun q => ((hok c).mp q).1 x1
      refine hkk hc2 _ ⟨u, ?_, g1⟩
      rw [hst, if_neg (fun q => no q.1)]
    rw [if_neg x1, if_pos rfl, (hmay c).1 u rc, zcl_s]
    by_cases x2 : may c = true
    rotate_left
    · rw [if_neg x2, if_pos rfl]
      have no : ¬ ok c = true := fun q => x2 ((hok c).mp q).2
      refine hkk hc2 _ ⟨u, ?_, g1⟩
      rw [hst, if_neg (fun q => no q.1)]
    have yes : ok c = true := (hok c).mpr ⟨x1, x2⟩
    obtain ⟨u2, m1, m2⟩ := s_others11 (w := u) (c := c) (cl := cl) hT2 hc2 hm (by rw [rc 4 (by omega) (by omega), rc 6 (by omega) (by omega)]; exact hP) (by rw [rc 3 (by omega) (by omega)]; exact hR) u21 (fun t ht => by rw [u5]; exact k1 t ht)
    have ev : yPv u cl T c m = yPv w cl T c m := by
      unfold yPv
      rw [rc 2 (by omega) (by omega), rc 3 (by omega) (by omega), rc 4 (by omega) (by omega), rc 6 (by omega) (by omega), rc 8 (by omega) (by omega), rc 9 (by omega) (by omega)]
    rw [ev] at m1
    rw [if_pos x2, if_neg i10, m1, zcl_s]
    have g2 : qJ w u2 := g1.tr (qJ.lo2 m2)
    by_cases x3 : (qBp ok (fun c => yPv w cl T c m) c).2.toInt < (yPv w cl T c m).toInt
    · rw [if_neg (by rw [zle]; omega)]
      refine hkk hc2 _ ⟨u2, ?_, g2⟩
      rw [hst, if_pos ⟨yes, x3⟩]
    · rw [if_pos (by rw [zle]; omega)]
      refine hkk hc2 _ ⟨u2, ?_, g2⟩
      rw [hst, if_neg (fun q => x3 q.2)]
  obtain ⟨w1, c1, c2⟩ := hcl
  have w1s : w1 232 = w 232 := c2.lo (by omega)
  have h1 : qInv n w1 := h.j c2
  -- the model
  have hml : ∃ u, mX12_place 231 m w1 = some ((qBp ok (fun c => yPv w cl T c m) 30).1, u) ∧ qInv n u := by
    have f0 : mX12_place 231 m w1 = mX12_place_50 231 m (-5) (-1) 0 w1 := by
      unfold mX12_place
      simp (disch := (first | omega | (simp (disch := omega) only [zu1, zu2, zu3, nIi, T500, w1s, e2, l12, nT12, d2, T400]; omega))) only [if_true, if_false, zE10, zE00, zOkN, Nat.reduceAdd, Nat.reduceMul, zcl_s, zif01, zbn_e, nIi, nI_clamp, nI_add, nI_1, pk_mul, zgi, zlt, zle, Int32.zero_add, Int32.add_zero, C0, C1, G0, G1, Nat.zero_add, Nat.add_zero, l2, l3, l4, l5, l6, l7, l8, l10, l11, l12, l20, l30, l48, l50, l60, l100, l120, l140, l152, l164, l176, l188, l200, l212, l224, l1604, l1880, l2000, l2008, l2016, l2024, l2032, l2040, l2048, l2210, l2240, l2270, l2300, l2330, l2390, l2450, l2510, l2570, l2590, l2620, l2650, l2660, l2700, T0, T1, Tm1, Tm99, Tm999, p_within, p_in, p_isCell, p_isOwner, p_isDay11, p_isDay12, p_isTap11, p_isTaker11, if_pos, if_neg, p_isTap12, p_isTaker12, p_isGone, zu1, zu2, zu3, nIe, Nat.reduceSub, T500, w1s, e2, l12, nT12, d2, T400]
    rw [f0]
    unfold mX12_place_50
    refine zlp_R (R := fun (Y : Option (Int32 × zWd)) => ∃ u, Y = some ((qBp ok (fun c => yPv w cl T c m) 30).1, u) ∧ qInv n u)
      (P := fun (c : Nat) (q : Int32 × Int32 × Int32 × zWd) => ∃ u, q = ((qBp ok (fun c => yPv w cl T c m) c).1, (qBp ok (fun c => yPv w cl T c m) c).2, nI c, u) ∧ qInv n u ∧ qKw w u T) (n := 30) (by unfold zFU; omega) ?_ ⟨w1, rfl, h1, ⟨fun k h1 h2 h3 => c2.1 k h1 h3, c2.2, fun j _ _ _ _ => by rw [w1s]⟩⟩
    rintro c hc q ⟨u, rfl, g1, g2⟩ k hkk
    simp only [mX12_place_50b, mX12_place_112, mX12_place_111, mX12_place_98]
    by_cases e : c = 30
    · subst e
      rw [if_pos (by decide)]
      exact ⟨u, rfl, g1⟩
    have hc2 : c < 30 := by omega
    have ulo : ∀ x, x ≤ 205 → u x = w x := fun x hx => g2.1 x (by omega) (by omega) (by unfold qJc; simp only [Bool.or_eq_false_iff, Bool.and_eq_false_iff, decide_eq_false_iff_not]; omega)
    have uT : u 232 1 = nI T := by rw [g2.2.2 1 (by omega) (by omega) (by omega) (by omega)]; exact e2
    have ht := s_hasTap12 hT uT (nI c)
    have hiff : (∃ i, i < T ∧ u 232 (152 + i) = nI c) ↔ ∃ t, t < T ∧ w 5 t = nI c := by
      have hx : ∀ i, i < T → u 232 (152 + i) = w 5 i := fun i hi => by rw [g2.2.2 _ (by omega) (by omega) (by omega) (by omega)]; exact (hk i hi).2.1
      exact ⟨fun ⟨i, q1, q2⟩ => ⟨i, q1, by rw [← hx i q1]; exact q2⟩, fun ⟨i, q1, q2⟩ => ⟨i, q1, by rw [hx i q1]; exact q2⟩⟩
    have hst : qBp ok (fun c => yPv w cl T c m) (c + 1) = if ok c = true ∧ (qBp ok (fun c => yPv w cl T c m) c).2.toInt < (yPv w cl T c m).toInt then (nI c, yPv w cl T c m) else qBp ok (fun c => yPv w cl T c m) c := rfl
    rw [if_neg (show ¬ (30 : Int32) ≤ nI c from nI_ge (b := 30) (by omega) (by decide)), ht, zcl_s, ← nI_succ]
    by_cases x1 : ∃ t, t < T ∧ w 5 t = nI c
    · rw [if_pos (hiff.mpr x1), if_neg i10]
      have no : ¬ ok c = true := fun q => ((hok c).mp q).1 x1
      refine hkk hc2 _ ⟨u, ?_, g1, g2⟩
      rw [hst, if_neg (fun q => no q.1)]
    rw [if_neg (fun q => x1 (hiff.mp q)), if_pos rfl]
    -- the same answer
    obtain ⟨b, b1, b2⟩ := s_mayBe g1 1 (nI c) 1
    have eb : b = may c := by
      have q1 := b1 w (fun x h1 h2 => (ulo x (by omega)).symm)
      rw [(hmay c).1 w (qRc.rf w)] at q1
      cases b <;> cases hmc : may c <;> simp [hmc] at q1 ⊢
    obtain ⟨u3, m1, m2⟩ := b2 u rfl
    rw [eb] at m1
    rw [m1, zcl_s]
    have g1' : qInv n u3 := g1.s1 m2
    have u3s : u3 232 = u 232 := m2.1 232 (by decide)
    have g2' : qKw w u3 T := ⟨fun x h1 h2 h3 => by rw [m2.1 x h1]; exact g2.1 x h1 h2 h3, fun j hj => by rw [m2.2 j hj]; exact g2.2.1 j hj, fun j j1 j2 j3 j4 => by rw [u3s]; exact g2.2.2 j j1 j2 j3 j4⟩
    by_cases x2 : may c = true
    rotate_left
    · rw [if_neg x2, if_pos rfl]
      have no : ¬ ok c = true := fun q => x2 ((hok c).mp q).2
      refine hkk hc2 _ ⟨u3, ?_, g1', g2'⟩
      rw [hst, if_neg (fun q => no q.1)]
    have yes : ok c = true := (hok c).mpr ⟨x1, x2⟩
    have lo3 : ∀ j, j ≠ 140 + T → j ≠ 152 + T → j ≠ 164 + T → j ≠ 188 + T → u3 232 j = w 232 j := g2'.2.2
    obtain ⟨u4, p1, p2, p3⟩ := s_given12 (w := w) (u0 := u3) (c := c) (cl := cl) hT2 hc2 hm hP hR k1 (fun t ht => qBit01 _ (by omega)) hT3.1 (by rw [u3s]; exact uT) (fun j hj => by rw [lo3 _ (by omega) (by omega) (by omega) (by omega)]; exact h3 j hj) (fun t ht => by rw [lo3 _ (by omega) (by omega) (by omega) (by omega), lo3 _ (by omega) (by omega) (by omega) (by omega), lo3 _ (by omega) (by omega) (by omega) (by omega), lo3 _ (by omega) (by omega) (by omega) (by omega)]; exact hk t ht) (fun t ht => by rw [lo3 _ (by omega) (by omega) (by omega) (by omega), lo3 _ (by omega) (by omega) (by omega) (by omega)]; exact h8 t (by omega)) (by rw [lo3 _ (by omega) (by omega) (by omega) (by omega), lo3 _ (by omega) (by omega) (by omega) (by omega)]; exact hT3.2)
    have u4lo : ∀ x, x ≠ 232 → qJc x = false → u4 x = u3 x := fun x h1 h2 => by
      have hj := h2
      unfold qJc at hj
      simp only [Bool.or_eq_false_iff, Bool.and_eq_false_iff, decide_eq_false_iff_not] at hj
      exact p2 x h1 (by omega) (by omega) (by omega)
    have g2'' : qKw w u4 T := ⟨fun x h1 h2 h3 => by rw [u4lo x h2 h3]; exact g2'.1 x h1 h2 h3, fun j hj => by rw [u4lo 231 (by decide) (by decide)]; exact g2'.2.1 j hj, fun j j1 j2 j3 j4 => by rw [p3, yBy_o j1 j2 j3 j4]; exact lo3 j j1 j2 j3 j4⟩
    have g1'' : qInv n u4 := by
      refine g1'.of (Nat.le_refl n) ⟨fun x hx => ?_, by rw [u4lo 231 (by decide) (by decide)]⟩ ?_ ?_
      · refine u4lo x (fun q => by rw [q] at hx; exact absurd hx (by decide)) ?_
        unfold qPt at hx
        simp at hx
        unfold qJc
        simp only [Bool.or_eq_false_iff, Bool.and_eq_false_iff, decide_eq_false_iff_not]
        omega
      · have ev : qVw u4 1 = qVw u3 1 := by
          funext o
          unfold qVw
          by_cases ho : o < 102
          · rw [if_pos ho, if_pos ho, u4lo (1 + o) (by omega) (by unfold qJc; simp only [Bool.or_eq_false_iff, Bool.and_eq_false_iff, decide_eq_false_iff_not]; omega)]
          · rw [if_neg ho, if_neg ho]
        rw [ev, p3]
        exact r_by g1'.1 hT2 hc2 (by rw [u3s]; exact uT) m
      · rw [p3, yBy_o (by omega) (by omega) (by omega) (by omega)]; exact Int.le_refl _
    rw [if_pos x2, if_neg i10, p1, zcl_s]
    by_cases x3 : (qBp ok (fun c => yPv w cl T c m) c).2.toInt < (yPv w cl T c m).toInt
    · have x3' : ¬ yPv w cl T c m ≤ (qBp ok (fun c => yPv w cl T c m) c).2 := by rw [zle]; omega
      rw [if_neg x3', if_neg x3']
      refine hkk hc2 _ ⟨u4, ?_, g1'', g2''⟩
      rw [hst, if_pos ⟨yes, x3⟩]
    · have x3' : yPv w cl T c m ≤ (qBp ok (fun c => yPv w cl T c m) c).2 := by rw [zle]; omega
      rw [if_pos x3', if_pos x3']
      refine hkk hc2 _ ⟨u4, ?_, g1'', g2''⟩
      rw [hst, if_neg (fun q => x3 q.2)]
  obtain ⟨w2, b1, b2⟩ := hml
  exact ⟨_, w1, w2, c1, b1, b2.mono (Nat.le_succ n)⟩
