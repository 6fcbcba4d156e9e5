/-! THE START: both new objects are alike -/
theorem qInv_new : qInv 0 zW0 := by
  have c0 : ∀ o j, qVw zW0 1 o j = 0 := fun o j => by
    unfold qVw
    by_cases ho : o < 102
    · rw [if_pos ho]
      unfold zW0
      rw [if_neg (by omega), if_neg (by omega)]
    · rw [if_neg ho]
  have s0 : ∀ j, j < 2570 ∨ 2582 ≤ j → zW0 232 j = 0 := fun j hj => by
    show (if 2570 ≤ j ∧ j < 2582 then (-1 : Int32) else 0) = 0
    exact if_neg (by omega)
  have b0 : ∀ t, t < 32 → qBit 0 t = 0 := fun t ht => by
    rw [qBit_bt _ ht, show (0 : Int32) = nI 0 from rfl, nI_tb (by decide), Nat.zero_testBit]
    rfl
  have hB : qBk.all (fun b => b.2.2.1 + b.2.2.2 ≤ 2570 || 2582 ≤ b.2.2.1) = true := by decide +kernel
  have hG : qRb.all (fun b => (b.1 + b.2.1 ≤ 2570 || 2582 ≤ b.1) && (b.2.2.1 ≤ 0 && 0 ≤ b.2.2.2)) = true := by decide +kernel
  refine ⟨⟨?_, ?_, ?_, ?_, ?_, ?_, ?_, ?_⟩, rfl, zB0, fun q => absurd q (by decide), Or.inl ⟨rfl, rfl⟩, 0, rfl, Nat.le_refl _, fun i hi => ⟨0, Nat.le_refl _, rfl⟩⟩
  · intro q hq i hi
    have := List.all_eq_true.mp hB q hq
    simp only [Bool.or_eq_true, decide_eq_true_eq] at this
    rw [c0, s0 _ (by omega)]
  · intro q hq i hi
    have := List.all_eq_true.mp hG q hq
    simp only [Bool.or_eq_true, Bool.and_eq_true, decide_eq_true_eq] at this
    rw [s0 _ (by omega), T0]
    exact this.2
  · intro t ht
    simp only [c0]
    rw [s0 1 (by omega), T0, s0 (212 + t) (by omega), s0 (224 + t) (by omega), b0 t (by omega)]
    exact ⟨fun q => absurd q (by omega), fun _ => ⟨rfl, rfl, rfl⟩⟩
  · unfold qDr
    rw [c0]
    refine ⟨by decide +kernel, fun t ht => Or.inr ⟨b0 t (by omega), ?_⟩⟩
    show (if 2570 ≤ 2570 + t ∧ 2570 + t < 2582 then (-1 : Int32) else 0) = -1
    exact if_pos (by omega)
  · unfold qCh
    rw [c0]
    refine ⟨by decide +kernel, fun k hk => ?_⟩
    rw [s0 _ (by omega), b0 k (by omega)]
  · intro t d q _ _ h
    rw [s0 1 (by omega), T0] at h
    omega
  · intro k _ h
    rw [s0 3 (by omega), T0] at h
    omega
  · intro a h
    rw [s0 2 (by omega), T0] at h
    omega
theorem law_pure (L : Nat) (hL : L ≤ 3072) (xs : Nat → Int32) : ∃ w' : zWd, mL_law_18 L xs 290 0 231 0 zW0 = some (1, w') := law_run hL xs qInv_new
