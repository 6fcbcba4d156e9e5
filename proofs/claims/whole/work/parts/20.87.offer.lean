/-! THE MIX: what each tap has for it -/
/-- the model's array, but for ORDERS and THE TAPE's size -/
def qxM (s s' : Nat → Int32) : Prop := ∀ j, j ≠ 2 → j ≠ 6 → (j < 240 ∨ 1880 ≤ j) → s' j = s j
theorem qxM.rf (s : Nat → Int32) : qxM s s := fun _ _ _ _ => rfl
def qxUc (w u : zWd) : Prop := u 1 = w 1 ∧ u 2 = w 2 ∧ u 7 = w 7 ∧ u 205 = w 205 ∧ ∀ a, 82 ≤ a → a ≤ 93 → u a = w a
theorem h_put (u : zWd) {i t : Nat} (hi : i < 4) (k13 : Int32 × Int32 × Int32 × zWd → Option (Int32 × zWd)) (d v3 v4 : Int32) (ht : t ≤ 6) : mX12_mixOf_80 k13 231 d v3 v4 (nI i) (nI t) (nI i) 244 u = k13 (v3 + v4 * nI t, v4 * 7, nI (i + 1), zup u 244 i (nI t)) := by
  have hz : zin (nI i) 4 := vp_in_nI hi (by decide)
  unfold mX12_mixOf_80
  rw [zgd_t hz, zbn_e, zgd_t hz, nI_clamp (show i < 2 ^ 31 by omega)]
  show zbn (v3 + v4 * zup u 244 i (nI t) 244 i) _ = _
  rw [zu3, zbn_e, zbn_e, ← nI_succ]
theorem c_offer (u : zWd) {i : Nat} (hi : i < 4) {R : Nat} (hR : R < 2 ^ 31) (W : Int32) : mX1_offer 220 (nI i) (nI R) W u = some ((), zup (zup u 221 i (nI (min (R / 10) 6))) 222 i W) := by
  have hz : zin (nI i) 4 := vp_in_nI hi (by decide)
  unfold mX1_offer
  rw [show (10 : Int32) = nI 10 from rfl, pk_div hR (by decide) (by decide), zbn_e, zgd_t hz, zbn_e, zgd_t hz, zbn_e, nI_clamp (show i < 2 ^ 31 by omega)]
  have e : (if nI (R / 10) < (6 : Int32) then nI (R / 10) else 6) = nI (min (R / 10) 6) := by
    by_cases c : R / 10 < 6
    · rw [if_pos (show nI (R / 10) < (6 : Int32) from nI_lt (b := 6) c (by decide))]; congr 1; omega
    · rw [if_neg (show ¬ nI (R / 10) < (6 : Int32) from fun q => by rw [zlt, nIi (by omega), T6] at q; omega)]; show nI 6 = _; congr 1; omega
  rw [e]
theorem q_offer {n : Nat} {w : zWd} (h : qInv n w) {d D : Nat} (hd : d < D) (hD : D ≤ 400) (d1 : w 1 0 = nI D) (d2 : w 232 0 = nI D) {i : Nat} (hi : i < 4) : ∃ (t : Nat) (W : Int32), t ≤ 6
    ∧ (∀ u : zWd, qxUc w u → ∀ k2, mX11_servedOf_2b 0 (nI d) k2 (nI i) u = k2 (nI (i + 1), zup (zup u 221 i (nI t)) 222 i W))
    ∧ (t = 0 ∨ ∀ u : zWd, qxM (w 232) (u 232) → mX12_flowOf 231 (nI i) (nI d) 3 u = some (W, u))
    ∧ ∀ u : zWd, qxM (w 232) (u 232) → ∀ v3 v4 k13, mX12_mixOf_13b 231 (nI d) k13 v3 v4 (nI i) u = k13 (v3 + v4 * nI t, v4 * 7, nI (i + 1), zup u 244 i (nI t)) := by
  obtain ⟨T, hT, t1, t2⟩ := q_taps h
  have n4 : ¬ (4 : Int32) ≤ nI i := fun q => by rw [zle, T4, nIi (by omega)] at q; omega
  have i10 : ¬ (1 : Int32) = 0 := by decide
  have off0 : ∀ u k2, mX11_servedOf_49 k2 0 (nI d) (nI i) u = k2 (nI (i + 1), zup (zup u 221 i (nI 0)) 222 i 0) := fun u k2 => by
    unfold mX11_servedOf_49 mX11_servedOf_59
    rw [show mX1_offer (0 + 220) (nI i) 0 0 u = mX1_offer 220 (nI i) (nI 0) 0 u from rfl, c_offer u hi (by decide) 0, zcl_s, ← nI_succ]
    rfl
  have put0 : ∀ u v3 v4 k13, mX12_mixOf_57 k13 231 (nI d) v3 v4 (nI i) u = k13 (v3 + v4 * nI 0, v4 * 7, nI (i + 1), zup u 244 i (nI 0)) := fun u v3 v4 k13 => by
    unfold mX12_mixOf_57 mX12_mixOf_58
    rw [if_pos (show (0 : Int32) ≤ 6 by decide)]
    exact h_put u hi k13 (nI d) v3 v4 (t := 0) (Nat.zero_le _)
  have ist : ∀ u : zWd, qxUc w u → mX11_isTap 0 (nI i) u = some (if i < T then 1 else 0, u) := fun u hu => by
    rw [p_isTap11, hu.2.1, t1, nIi (by omega)]
    by_cases c : i < T
    · rw [if_pos (zOk_nI (by omega) (by omega)), if_pos c]
    · rw [if_neg (fun q => by rw [show zOkN (nI i) T = (0 ≤ (nI i).toInt ∧ (nI i).toInt < T) from rfl, nIi (by omega)] at q; omega), if_neg c]
  have hst : ∀ u : zWd, qxM (w 232) (u 232) → mX12_isTap 231 (nI i) u = some (if i < T then 1 else 0, u) := fun u hu => by
    have e : u 232 1 = nI T := by rw [hu 1 (by decide) (by decide) (by decide)]; exact t2
    rw [p_isTap12 _ _ (by rw [e, nIi (by omega)]; omega), e, nIi (by omega)]
    by_cases c : i < T
    · rw [if_pos (zOk_nI (by omega) (by omega)), if_pos c]
    · rw [if_neg (fun q => by rw [show zOkN (nI i) T = (0 ≤ (nI i).toInt ∧ (nI i).toInt < T) from rfl, nIi (by omega)] at q; omega), if_neg c]
  by_cases cT : i < T
  rotate_left
  · refine ⟨0, 0, by omega, fun u hu k2 => ?_, Or.inl rfl, fun u hu v3 v4 k13 => ?_⟩
    · unfold mX11_servedOf_2b
      rw [if_neg n4, ist u hu, if_neg cT, zcl_s, if_pos rfl]
      exact off0 u k2
    · unfold mX12_mixOf_13b
      rw [if_neg n4, hst u hu, if_neg cT, zcl_s, if_pos rfl]
      exact put0 u v3 v4 k13
  obtain ⟨F, hF, f1, f2⟩ := qSc h 9 14 rfl rfl (by decide) (i := i) (by omega)
  simp only [Nat.zero_add, Nat.reduceAdd] at f1
  have hF2 : F ≤ 400 := hF
  have wb : ∀ u : zWd, qxUc w u → mX11_wentBy 0 (nI i) (nI d) u = some (if F ≤ d then 1 else 0, u) := fun u hu => by
    rw [p_wentBy (show i < 12 by omega) hF2 hD (by rw [hu.2.2.1]; exact f1) (by rw [hu.1]; exact d1), nIi (by omega)]
    by_cases c : F ≤ d
    · rw [if_pos (by omega), if_pos c]
    · rw [if_neg (by omega), if_neg c]
  have e200 : (200 : Int32) + nI i = nI (200 + i) := nI_add 200 i
  have z200 : zin (nI (200 + i)) 21948 := vp_in_nI (by omega) (by decide)
  have hfr : ∀ u : zWd, qxM (w 232) (u 232) → u 232 (200 + i) = nI F := fun u hu => by rw [hu _ (by omega) (by omega) (by omega)]; exact f2
  by_cases cF : F ≤ d
  rotate_left
  · refine ⟨0, 0, by omega, fun u hu k2 => ?_, Or.inl rfl, fun u hu v3 v4 k13 => ?_⟩
    · unfold mX11_servedOf_2b
      rw [if_neg n4, ist u hu, if_pos cT, zcl_s, if_neg i10, wb u hu, if_neg cF, zcl_s, if_pos rfl]
      exact off0 u k2
    · unfold mX12_mixOf_13b
      rw [if_neg n4, hst u hu, if_pos cT, zcl_s, if_neg i10, e200, zgd_t z200, nI_clamp (show 200 + i < 2 ^ 31 by omega)]
      show (if nI d < u 232 (200 + i) then _ else _) = _
      rw [hfr u hu, if_pos (nI_lt (by omega) (by omega))]
      exact put0 u v3 v4 k13
  have hps := fun (q : Nat) (hq : q < 4) => h.1.2.2.2.2.2.1 i d q (by omega) hq (by rw [t2, nIi (by omega)]; omega) (by rw [f2, nIi (by omega)]; omega) (by rw [d2, nIi (by omega)]; omega)
  obtain ⟨p2, g0⟩ := hps 2 (by decide)
  obtain ⟨p3, _⟩ := hps 3 (by decide)
  obtain ⟨R, r1, r2, _, r4⟩ := qNat (x := w 232 (2700 + 1604 * i + 4 * d + 2)) (lo := 0) (hi := 2 ^ 31) ⟨g0, by have := (w 232 (2700 + 1604 * i + 4 * d + 2)).toInt_lt; omega⟩ (Int.le_refl 0)
  rw [r1] at p2
  refine ⟨min (R / 10) 6, w 232 (2700 + 1604 * i + 4 * d + 3), by omega, fun u hu k2 => ?_, Or.inr (fun u hu => ?_), fun u hu v3 v4 k13 => ?_⟩
  · unfold mX11_servedOf_2b
    rw [if_neg n4, ist u hu, if_pos cT, zcl_s, if_neg i10, wb u hu, if_pos cF, zcl_s, if_neg i10]
    rw [show mX11_pastFlow 0 (nI i) (nI d) 2 u = _ from s_past u (show i < 12 by omega) (show d < 400 by omega) (show 2 < 4 by decide), zcl_s, show mX11_pastFlow 0 (nI i) (nI d) 3 u = _ from s_past u (show i < 12 by omega) (show d < 400 by omega) (show 3 < 4 by decide), zcl_s, hu.2.2.2.1, p2, p3]
    rw [show mX1_offer (0 + 220) (nI i) (nI R) (w 232 (2700 + 1604 * i + 4 * d + 3)) u = _ from c_offer u hi r4 _, zcl_s]
    unfold mX11_servedOf_59
    rw [← nI_succ]
  · rw [show mX12_flowOf 231 (nI i) (nI d) 3 u = _ from s_flowOf u (show i < 12 by omega) (show d ≤ 400 by omega) (show 3 < 4 by decide), hu _ (by omega) (by omega) (by omega)]
  · unfold mX12_mixOf_13b
    rw [if_neg n4, hst u hu, if_pos cT, zcl_s, if_neg i10, e200, zgd_t z200, nI_clamp (show 200 + i < 2 ^ 31 by omega)]
    show (if nI d < u 232 (200 + i) then _ else _) = _
    rw [hfr u hu, if_neg (show ¬ nI d < nI F from fun q => by rw [zlt, nIi (by omega), nIi (by omega)] at q; omega)]
    rw [show mX12_flowOf 231 (nI i) (nI d) 2 u = _ from s_flowOf u (show i < 12 by omega) (show d ≤ 400 by omega) (show 2 < 4 by decide), zcl_s, hu _ (by omega) (by omega) (by omega), r1, show (10 : Int32) = nI 10 from rfl, pk_div r4 (by decide) (by decide)]
    unfold mX12_mixOf_58
    by_cases c : R / 10 ≤ 6
    · rw [if_pos (show nI (R / 10) ≤ (6 : Int32) by show nI (R / 10) ≤ nI 6; rw [zle, nIi (by omega), nIi (by omega)]; omega), show min (R / 10) 6 = R / 10 by omega]
      exact h_put u hi k13 (nI d) v3 v4 c
    · rw [if_neg (show ¬ nI (R / 10) ≤ (6 : Int32) from nI_ge (b := R / 10) (a := 6) (by omega) (by omega)), show min (R / 10) 6 = 6 by omega]
      exact h_put u hi k13 (nI d) v3 v4 (t := 6) (Nat.le_refl 6)
