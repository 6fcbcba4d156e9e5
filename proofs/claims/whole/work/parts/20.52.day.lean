/-- a day goes by -/
def yD (C : Nat → Int32) (j : Nat) : Int32 := if j < 30 then C j + yMv C (nI 8) 0 30 j else if j < 60 then C j + yMv C (nI 4) 30 30 (j - 30) else C j
/-- ranges of what is under -/
def yRg (C : Nat → Int32) : Prop := ∀ j, j < 30 → (0 ≤ (C j).toInt ∧ (C j).toInt ≤ 1500) ∧ (0 ≤ (C (30 + j)).toInt ∧ (C (30 + j)).toInt ≤ 9999) ∧ (0 ≤ (C (60 + j)).toInt ∧ (C (60 + j)).toInt ≤ 99) ∧ (0 ≤ (C (90 + j)).toInt ∧ (C (90 + j)).toInt ≤ 999)
theorem yMn_rg {M x : Int32} (h : 0 ≤ x.toInt) (hM : 0 ≤ M.toInt) : 0 ≤ (yMn M x).toInt ∧ (yMn M x).toInt ≤ M.toInt := by
  unfold yMn
  by_cases c : x.toInt ≤ M.toInt
  · rw [if_pos c]; exact ⟨h, c⟩
  · rw [if_neg c]; exact ⟨hM, Int.le_refl _⟩
theorem yRg_1 {C : Nat → Int32} (h : yRg C) : yRg (yC1 C) := by
  intro j hj
  obtain ⟨h1, h2, h3, h4⟩ := h j hj
  unfold yC1
  rw [if_pos hj, if_neg (show ¬ 30 + j < 30 by omega), if_pos (show 30 + j < 60 by omega), if_neg (show ¬ 60 + j < 30 by omega), if_neg (show ¬ 60 + j < 60 by omega), if_neg (show ¬ 90 + j < 30 by omega), if_neg (show ¬ 90 + j < 60 by omega)]
  refine ⟨?_, ?_, h3, h4⟩
  · have := toInt_add_s (a := C j) (b := C (60 + j)) (by omega) (by omega)
    exact yMn_rg (by omega) (by decide)
  · rw [show 60 + (30 + j) = 90 + j by omega]
    have := toInt_add_s (a := C (30 + j)) (b := C (90 + j)) (by omega) (by omega)
    exact yMn_rg (by omega) (by decide)
section YD
variable {kd tn sh : Nat → Int32} {cl : Nat → Nat} {T : Nat}
/-- what is told of the taps -/
def yTp (kd tn : Nat → Int32) (cl : Nat → Nat) (T : Nat) : Prop := ∀ t, t < T → cl t < 30 ∧ (¬ kd t = 0 → 1 ≤ (tn t).toInt ∧ (tn t).toInt ≤ 500)
theorem yV_rg {C : Nat → Int32} {t : Nat} (hP : yTp kd tn cl T) (ht : t < T) (h : 0 ≤ (C (30 + cl t)).toInt ∧ (C (30 + cl t)).toInt ≤ 9999) : 0 ≤ (yV kd tn sh cl C t).toInt ∧ (yV kd tn sh cl C t).toInt ≤ (C (30 + cl t)).toInt := by
  obtain ⟨h1, h2⟩ := hP t ht
  unfold yV
  by_cases c : sh t = 0
  rotate_left
  · rw [if_neg c, T0]; omega
  rw [if_pos c]
  have hd : 0 ≤ (if kd t = 0 then C (30 + cl t) / nI 10 else if kd t = 1 then tn t else tn t + tn t / nI 2).toInt := by
    by_cases c0 : kd t = 0
    · rw [if_pos c0]
      obtain ⟨m, k1, k2, k3, k4⟩ := qNat h (Int.le_refl 0)
      rw [k1, pk_div k4 (by decide) (by decide), nIi (by omega)]
      omega
    rw [if_neg c0]
    have h3 := h2 c0
    by_cases c1 : kd t = 1
    · rw [if_pos c1]; omega
    · rw [if_neg c1]
      obtain ⟨m, k1, k2, k3, k4⟩ := qNat (x := tn t) (lo := 0) (hi := 500) (by omega) (Int.le_refl 0)
      rw [k1, pk_div k4 (by decide) (by decide), nI_add, nIi (by omega)]
      omega
  generalize (if kd t = 0 then C (30 + cl t) / nI 10 else if kd t = 1 then tn t else tn t + tn t / nI 2) = d at hd ⊢
  by_cases c2 : (C (30 + cl t)).toInt < d.toInt
  · rw [if_pos c2]; omega
  · rw [if_neg c2]; omega
theorem yRg_2 {C : Nat → Int32} (hP : yTp kd tn cl T) (h : yRg C) : ∀ t, t ≤ T → yRg (yC2 kd tn sh cl C t)
  | 0, _ => h
  | t + 1, ht => by
    have ih := yRg_2 hP h t (by omega)
    obtain ⟨c1, c2⟩ := hP t (by omega)
    have hw := (ih (cl t) c1).2.1
    have hv := yV_rg (sh := sh) hP (show t < T by omega) hw
    intro j hj
    obtain ⟨h1, h2, h3, h4⟩ := ih j hj
    show _
    unfold yC2
    rw [qu_ne _ _ (show j ≠ 30 + cl t by omega), qu_ne _ _ (show 60 + j ≠ 30 + cl t by omega), qu_ne _ _ (show 90 + j ≠ 30 + cl t by omega)]
    refine ⟨h1, ?_, h3, h4⟩
    by_cases e : 30 + j = 30 + cl t
    · rw [e, qu_eq, toInt_sub_s (by omega) (by omega)]
      omega
    · rw [qu_ne _ _ e]; exact h2
/-- what each gives, how hot, that day -/
def yVt (kd tn sh : Nat → Int32) (cl : Nat → Nat) (C : Nat → Int32) (t : Nat) : Int32 := yV kd tn sh cl (yC2 kd tn sh cl (yC1 C) t) t
def yHt (kd tn sh : Nat → Int32) (cl : Nat → Nat) (C : Nat → Int32) (t : Nat) : Int32 := yH kd cl (yC2 kd tn sh cl (yC1 C) t) t
def yDy (kd tn sh : Nat → Int32) (cl : Nat → Nat) (T : Nat) (C : Nat → Int32) : Nat → Int32 := yD (yC2 kd tn sh cl (yC1 C) T)
theorem s_day11 {v0 : Nat} {w : zWd} (hT : T ≤ 12) (hP : yTp kd tn cl T) (hR : yRg (w (v0 + 1))) (e1 : w v0 1 = nI T) (k0 : ∀ t, t < T → w (v0 + 2) t = kd t) (k1 : ∀ t, t < T → w (v0 + 3) t = nI (cl t)) (k2 : ∀ t, t < T → w (v0 + 4) t = tn t) (k3 : ∀ t, t < T → qBit (w v0 2) t = sh t) :
    ∃ w', mX0_passDay v0 w = some ((), w') ∧ (∀ a, a ≠ v0 + 1 → a ≠ v0 + 7 → a ≠ v0 + 8 → a ≠ v0 + 9 → w' a = w a) ∧ w' (v0 + 1) = yDy kd tn sh cl T (w (v0 + 1)) ∧ (∀ t, w' (v0 + 7) t = if t < T then w (v0 + 7) t + yI (yVt kd tn sh cl (w (v0 + 1)) t) (yHt kd tn sh cl (w (v0 + 1)) t) else w (v0 + 7) t) ∧ ∀ t q, t < T → q < 4 → w' (v0 + 8) (4 * t + q) = yF (yVt kd tn sh cl (w (v0 + 1)) t) (yHt kd tn sh cl (w (v0 + 1)) t) (w (v0 + 7) t) (w (v0 + 6) t) q := by
  generalize hCC : w (v0 + 1) = C at *
  have l30 : ∀ u : zWd, (∀ a, a ≠ v0 + 1 → u a = w a) → u (v0 + 1) = yC1 C → ∃ w', mX0_passDay_30 v0 0 u = some ((), w') ∧ (∀ a, a ≠ v0 + 1 → a ≠ v0 + 7 → a ≠ v0 + 8 → a ≠ v0 + 9 → w' a = w a) ∧ w' (v0 + 1) = yDy kd tn sh cl T C ∧ (∀ t, w' (v0 + 7) t = if t < T then w (v0 + 7) t + yI (yVt kd tn sh cl C t) (yHt kd tn sh cl C t) else w (v0 + 7) t) ∧ ∀ t q, t < T → q < 4 → w' (v0 + 8) (4 * t + q) = yF (yVt kd tn sh cl C t) (yHt kd tn sh cl C t) (w (v0 + 7) t) (w (v0 + 6) t) q := by
    intro u hu hu1
    unfold mX0_passDay_30
    refine zlp_R (R := fun (Y : Option (Unit × zWd)) => ∃ w', Y = some ((), w') ∧ (∀ a, a ≠ v0 + 1 → a ≠ v0 + 7 → a ≠ v0 + 8 → a ≠ v0 + 9 → w' a = w a) ∧ w' (v0 + 1) = yDy kd tn sh cl T C ∧ (∀ t, w' (v0 + 7) t = if t < T then w (v0 + 7) t + yI (yVt kd tn sh cl C t) (yHt kd tn sh cl C t) else w (v0 + 7) t) ∧ ∀ t q, t < T → q < 4 → w' (v0 + 8) (4 * t + q) = yF (yVt kd tn sh cl C t) (yHt kd tn sh cl C t) (w (v0 + 7) t) (w (v0 + 6) t) q)
      (P := fun (i : Nat) (q : Int32 × zWd) => ∃ u', q = (nI i, u') ∧ (∀ a, a ≠ v0 + 1 → a ≠ v0 + 7 → a ≠ v0 + 8 → u' a = w a) ∧ u' (v0 + 1) = yC2 kd tn sh cl (yC1 C) i ∧ (∀ t, u' (v0 + 7) t = if t < i then w (v0 + 7) t + yI (yVt kd tn sh cl C t) (yHt kd tn sh cl C t) else w (v0 + 7) t) ∧ ∀ t q, t < i → q < 4 → u' (v0 + 8) (4 * t + q) = yF (yVt kd tn sh cl C t) (yHt kd tn sh cl C t) (w (v0 + 7) t) (w (v0 + 6) t) q) (n := T) (by unfold zFU; omega) ?_ ⟨u, rfl, fun a h1 _ _ => hu a h1, hu1, fun t => by rw [if_neg (by omega), hu _ (by omega)], fun t q ht => absurd ht (by omega)⟩
    rintro i hi q ⟨u1, rfl, g1, g2, g3, g4⟩ k hk
    simp only [mX0_passDay_30b]
    have ei : u1 v0 1 = nI T := by rw [g1 v0 (by omega) (by omega) (by omega)]; exact e1
    by_cases e : i = T
    · subst e
      obtain ⟨u2, m1, m2, m3⟩ := s_even (v0 := v0) (w := u1) (a := 0) (p := nI 8) (by omega) (by decide)
      obtain ⟨u3, m4, m5, m6⟩ := s_even (v0 := v0) (w := u2) (a := 1) (p := nI 4) (by omega) (by decide)
      rw [if_pos (show u1 v0 1 ≤ nI i by rw [ei]; exact nI_le (Nat.le_refl _) (by omega))]
      have m1' : mX0_even v0 0 8 u1 = some ((), u2) := m1
      have m4' : mX0_even v0 1 4 u2 = some ((), u3) := m4
      rw [m1', zcl_s, m4', zcl_s]
      refine ⟨u3, rfl, fun a h1 h7 h8 h9 => by rw [m5 a h1 h9, m2 a h1 h9]; exact g1 a h1 h7 h8, funext (fun j => ?_), fun t => by rw [m5 _ (by omega) (by omega), m2 _ (by omega) (by omega)]; exact g3 t, fun t q ht hq => by rw [m5 _ (by omega) (by omega), m2 _ (by omega) (by omega)]; exact g4 t q ht hq⟩
      have f2 : ∀ j, u2 (v0 + 1) j = if j < 30 then yC2 kd tn sh cl (yC1 C) i j + yMv (yC2 kd tn sh cl (yC1 C) i) (nI 8) 0 30 j else yC2 kd tn sh cl (yC1 C) i j := fun j => by
        rw [m3 j, g2]
        by_cases c : j < 30
        · rw [if_pos c, if_pos (by omega)]; rfl
        · rw [if_neg c, if_neg (by omega)]
      have f3 : ∀ a, a < 30 → yMv (u2 (v0 + 1)) (nI 4) (30 * 1) 30 a = yMv (yC2 kd tn sh cl (yC1 C) i) (nI 4) 30 30 a := fun a ha => by
        have f4 : ∀ x, u2 (v0 + 1) (30 * 1 + x) = yC2 kd tn sh cl (yC1 C) i (30 + x) := fun x => by rw [f2, if_neg (by omega)]
        unfold yMv
        simp only [f4]
      rw [m6 j]
      unfold yDy yD
      by_cases c : j < 30
      · rw [if_pos c, if_neg (by omega), f2, if_pos c]
      rw [if_neg c]
      by_cases c2 : j < 60
      · rw [if_pos c2, if_pos (by omega), f2, if_neg c, f3 _ (by omega)]
      · rw [if_neg c2, if_neg (by omega), f2, if_neg c]
    have hi2 : i < T := by omega
    have hrg := (yRg_2 (sh := sh) hP (yRg_1 hR) i (by omega) (cl i) (hP i hi2).1).2.1
    have hv := yV_rg (sh := sh) hP hi2 hrg
    obtain ⟨u2, m1, m2, m3, m4, m5, m6⟩ := s_give (v0 := v0) (w := u1) (kd := kd) (tn := tn) (sh := sh) (cl := cl) (t := i) (by omega) (hP i hi2).1 (by rw [g1 _ (by omega) (by omega) (by omega)]; exact k0 i hi2) (by rw [g1 _ (by omega) (by omega) (by omega)]; exact k1 i hi2) (by rw [g1 _ (by omega) (by omega) (by omega)]; exact k2 i hi2) (by rw [g1 _ (by omega) (by omega) (by omega)]; exact k3 i hi2) (by rw [g2]; omega)
    rw [if_neg (show ¬ u1 v0 1 ≤ nI i by rw [ei]; exact nI_ge hi2 (by omega)), m1, zcl_s, ← nI_succ]
    rw [g2] at m3 m4 m5
    have f7 : u1 (v0 + 7) i = w (v0 + 7) i := by rw [g3, if_neg (by omega)]
    rw [f7] at m4 m5
    refine hk hi2 _ ⟨u2, rfl, fun a h1 h7 h8 => by rw [m2 a h1 h7 h8]; exact g1 a h1 h7 h8, funext (fun j => ?_), fun t => ?_, fun t q ht hq => ?_⟩
    · rw [m3 j]
      show _ = upd (yC2 kd tn sh cl (yC1 C) i) (30 + cl i) _ j
      by_cases c : j = 30 + cl i
      · rw [if_pos c, c, qu_eq]
      · rw [if_neg c, qu_ne _ _ c]
    · rw [m4 t]
      by_cases c : t = i
      · rw [if_pos c, c, if_pos (by omega)]; rfl
      · rw [if_neg c, g3 t]
        by_cases c2 : t < i
        · rw [if_pos c2, if_pos (by omega)]
        · rw [if_neg c2, if_neg (by omega)]
    · by_cases c : t = i
      · rw [c, m5 q hq, g1 (v0 + 6) (by omega) (by omega) (by omega)]; rfl
      · rw [m6 _ (by omega)]; exact g4 t q (by omega) hq
  unfold mX0_passDay mX0_passDay_2
  refine zlp_R (R := fun (Y : Option (Unit × zWd)) => ∃ w', Y = some ((), w') ∧ (∀ a, a ≠ v0 + 1 → a ≠ v0 + 7 → a ≠ v0 + 8 → a ≠ v0 + 9 → w' a = w a) ∧ w' (v0 + 1) = yDy kd tn sh cl T C ∧ (∀ t, w' (v0 + 7) t = if t < T then w (v0 + 7) t + yI (yVt kd tn sh cl C t) (yHt kd tn sh cl C t) else w (v0 + 7) t) ∧ ∀ t q, t < T → q < 4 → w' (v0 + 8) (4 * t + q) = yF (yVt kd tn sh cl C t) (yHt kd tn sh cl C t) (w (v0 + 7) t) (w (v0 + 6) t) q)
    (P := fun (i : Nat) (q : Int32 × zWd) => ∃ u', q = (nI i, u') ∧ (∀ a, a ≠ v0 + 1 → u' a = w a) ∧ ∀ j, u' (v0 + 1) j = if j < i ∨ (30 ≤ j ∧ j < 30 + i) then yC1 C j else C j) (n := 30) (by unfold zFU; omega) ?_ ⟨w, rfl, fun _ _ => rfl, fun j => by rw [if_neg (by omega), hCC]⟩
  rintro i hi q ⟨u1, rfl, g1, g2⟩ k hk
  simp only [mX0_passDay_2b]
  by_cases e : i = 30
  · subst e
    rw [if_pos (by decide)]
    refine l30 u1 g1 (funext (fun j => ?_))
    rw [g2 j]
    by_cases c : j < 30 ∨ (30 ≤ j ∧ j < 30 + 30)
    · rw [if_pos c]
    · rw [if_neg c]; unfold yC1; rw [if_neg (by omega), if_neg (by omega)]
  have hi2 : i < 30 := by omega
  have m1 : mX0_get v0 0 2 (nI i) u1 = _ := s_get v0 u1 (a := 0) (b := 2) (by decide) (by decide) hi2 (M := 1500) (by decide +kernel)
  have m2 : mX0_get v0 1 3 (nI i) (zup u1 (v0 + 1) (30 * 0 + i) (yMn 1500 (u1 (v0 + 1) (30 * 0 + i) + u1 (v0 + 1) (30 * 2 + i)))) = _ := s_get v0 _ (a := 1) (b := 3) (by decide) (by decide) hi2 (M := 9999) (by decide +kernel)
  rw [if_neg (show ¬ (30 : Int32) ≤ nI i from nI_ge (b := 30) (by omega) (by decide)), m1, zcl_s, m2, zcl_s, ← nI_succ]
  refine hk hi2 _ ⟨_, rfl, fun a ha => by rw [zpE _ _ _ ha, zpE _ _ _ ha]; exact g1 a ha, fun j => ?_⟩
  by_cases c1 : j = 30 * 1 + i
  · rw [c1, zu3, zu2 _ _ (by omega), zu2 _ _ (by omega), g2, g2, if_neg (by omega), if_neg (by omega), if_pos (by omega)]
    unfold yC1
    rw [if_neg (by omega), if_pos (by omega)]
    rw [show 60 + (30 * 1 + i) = 30 * 3 + i by omega]
  rw [zu2 _ _ c1]
  by_cases c2 : j = 30 * 0 + i
  · rw [c2, zu3, g2, g2, if_neg (by omega), if_neg (by omega), if_pos (by omega)]
    unfold yC1
    rw [if_pos (by omega)]
    rw [show 60 + (30 * 0 + i) = 30 * 2 + i by omega]
  rw [zu2 _ _ c2, g2 j]
  by_cases c : j < i ∨ (30 ≤ j ∧ j < 30 + i)
  · rw [if_pos c, if_pos (by omega)]
  · rw [if_neg c, if_neg (by omega)]
end YD
