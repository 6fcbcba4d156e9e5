/-! THE LAW: call by call, both answer alike -/
theorem l_step {n : Nat} {w : zWd} {f g : zWd → Option (Int32 × zWd)} (hb : qBoth n w f g) (k : zWd → Option (Int32 × zWd)) (bad : Int32 → Int32 → zWd → Option (Int32 × zWd)) (hk : ∀ w', qInv (n + 1) w' → ∃ w'', k w' = some (1, w'')) : ∃ w'', zcl (f w) (fun r1 w2 => zcl (g w2) (fun r3 w4 => if r1 = r3 then k w4 else bad r1 r3 w4)) = some (1, w'') := by
  obtain ⟨r, w1, w2, f1, f2, f3⟩ := hb
  rw [f1, zcl_s, f2, zcl_s, if_pos rfl]
  exact hk w2 f3
theorem l_turn {L i : Nat} {xs : Nat → Int32} {w : zWd} (hL : L ≤ 3072) (hi : 6 * i + 6 ≤ L) (h : qInv i w) (k18 : Int32 × zWd → Option (Int32 × zWd)) (hk : ∀ w', qInv (i + 1) w' → ∃ w'', k18 (nI (6 * (i + 1)), w') = some (1, w'')) : ∃ w'', mL_law_18b L xs 290 0 231 k18 (nI (6 * i)) w = some (1, w'') := by
  have hn : i < 100000 := by omega
  have kk : ∀ w', qInv (i + 1) w' → ∃ w'', mL_law_1409 L xs k18 290 0 231 (nI (6 * i)) w' = some (1, w'') := fun w' hw => by
    unfold mL_law_1409
    rw [show nI (6 * i) + (6 : Int32) = nI (6 * (i + 1)) from nI_add (6 * i) 6]
    exact hk w' hw
  have z0 : zin (nI (6 * i)) L := vp_in_nI (by omega) (by omega)
  have zz : ∀ j, j ≤ 5 → zin (nI (6 * i) + nI j) L := fun j hj => by rw [nI_add]; exact vp_in_nI (by omega) (by omega)
  have z1 : zin (nI (6 * i) + (1 : Int32)) L := zz 1 (by decide)
  have z2 : zin (nI (6 * i) + (2 : Int32)) L := zz 2 (by decide)
  have z3 : zin (nI (6 * i) + (3 : Int32)) L := zz 3 (by decide)
  have z4 : zin (nI (6 * i) + (4 : Int32)) L := zz 4 (by decide)
  have z5 : zin (nI (6 * i) + (5 : Int32)) L := zz 5 (by decide)
  have hlt : ¬ (Int32.ofNat L - (6 : Int32)) < nI (6 * i) := fun q => by
    have := nIs (a := L) (b := 6) (by omega) (by omega)
    rw [zlt, nIi (by omega), show (Int32.ofNat L - (6 : Int32)).toInt = (L : Int) - 6 from this] at q
    omega
  unfold mL_law_18b
  rw [if_neg hlt]
  simp only [zgd_t z0, zgd_t z1, zgd_t z2, zgd_t z3, zgd_t z4, zgd_t z5]
  generalize xs (nI (6 * i)).toNatClampNeg &&& 63 = op
  by_cases c0 : op = 0
  · rw [if_pos c0]; exact l_step (u_under h _ _ _) _ _ kk
  rw [if_neg c0]
  by_cases c1 : op = 1
  · rw [if_pos c1]; exact l_step (u_cell h _ _) _ _ kk
  rw [if_neg c1]
  by_cases c2 : op = 2
  · rw [if_pos c2]; exact l_step (u_tap h _ _ _ _) _ _ kk
  rw [if_neg c2]
  by_cases c3 : op = 3
  · rw [if_pos c3]
    unfold mL_law_336 mL_law_358
    by_cases v : xs (nI (6 * i) + 2).toNatClampNeg = 0
    · simp only [if_pos v, zgd_t z1, zgd_t z2]
      exact l_step (u_shut h _ _) _ _ kk
    · simp only [if_neg v, zgd_t z1, zgd_t z2]
      exact l_step (u_shut h _ _) _ _ kk
  rw [if_neg c3]
  by_cases c4 : op = 4
  · rw [if_pos c4]; exact l_step (u_dawn h _) _ _ kk
  rw [if_neg c4]
  by_cases c5 : op = 5
  · rw [if_pos c5]; exact l_step (u_flow h _ _ _) _ _ kk
  rw [if_neg c5]
  by_cases c6 : op = 6
  · rw [if_pos c6]; exact l_step (u_pipe h _ _) _ _ kk
  rw [if_neg c6]
  by_cases c7 : op = 7
  · rw [if_pos c7]; exact l_step (u_scale h _) _ _ kk
  rw [if_neg c7]
  by_cases c8 : op = 8
  · rw [if_pos c8]; exact l_step (u_feed h _ _) _ _ kk
  rw [if_neg c8]
  by_cases c9 : op = 9
  · rw [if_pos c9]; exact l_step (u_text h _) _ _ kk
  rw [if_neg c9]
  by_cases c10 : op = 10
  · rw [if_pos c10]; exact l_step (u_force h _ _ _) _ _ kk
  rw [if_neg c10]
  by_cases c11 : op = 11
  · rw [if_pos c11]; exact l_step (u_why h _ _ _) _ _ kk
  rw [if_neg c11]
  by_cases c12 : op = 12
  · rw [if_pos c12]; exact l_step (u_taker h _ _ _ _ _) _ _ kk
  rw [if_neg c12]
  by_cases c13 : op = 13
  · rw [if_pos c13]; exact l_step (u_of h _ _) _ _ kk
  rw [if_neg c13]
  by_cases c14 : op = 14
  · rw [if_pos c14]; exact l_step (u_as h _ _) _ _ kk
  rw [if_neg c14]
  by_cases c15 : op = 15
  · rw [if_pos c15]; exact l_step (u_row h _ _) _ _ kk
  rw [if_neg c15]
  by_cases c16 : op = 16
  · rw [if_pos c16]; exact l_step (u_sell h _ _ _ _) _ _ kk
  rw [if_neg c16]
  by_cases c17 : op = 17
  · rw [if_pos c17]; exact l_step (u_whose h _ _ _) _ _ kk
  rw [if_neg c17]
  by_cases c18 : op = 18
  · rw [if_pos c18]; exact l_step (u_used h _ _) _ _ kk
  rw [if_neg c18]
  by_cases c19 : op = 19
  · rw [if_pos c19]; exact l_step (u_lapsed h _ _) _ _ kk
  rw [if_neg c19]
  by_cases c20 : op = 20
  · rw [if_pos c20]; exact l_step (u_mix h hn _) _ _ kk
  rw [if_neg c20]
  by_cases c21 : op = 21
  · rw [if_pos c21]; exact l_step (u_want h _ _) _ _ kk
  rw [if_neg c21]
  by_cases c22 : op = 22
  · rw [if_pos c22]; exact l_step (u_look h _ _ _ _) _ _ kk
  rw [if_neg c22]
  by_cases c23 : op = 23
  · rw [if_pos c23]; exact l_step (u_off h _) _ _ kk
  rw [if_neg c23]
  by_cases c24 : op = 24
  · rw [if_pos c24]; exact l_step (u_drop h _ _) _ _ kk
  rw [if_neg c24]
  by_cases c25 : op = 25
  · rw [if_pos c25]; exact l_step (u_cause h _ _) _ _ kk
  rw [if_neg c25]
  by_cases c26 : op = 26
  · rw [if_pos c26]; exact l_step (u_tire h _ _) _ _ kk
  rw [if_neg c26]
  by_cases c27 : op = 27
  · rw [if_pos c27]; exact l_step (u_shake h _ _) _ _ kk
  rw [if_neg c27]
  by_cases c28 : op = 28
  · rw [if_pos c28]; exact l_step (u_push h _ _) _ _ kk
  rw [if_neg c28]
  by_cases c29 : op = 29
  · rw [if_pos c29]; exact l_step (u_shift h _) _ _ kk
  rw [if_neg c29]
  by_cases c30 : op = 30
  · rw [if_pos c30]; exact l_step (u_place h _) _ _ kk
  rw [if_neg c30]
  by_cases c31 : op = 31
  · rw [if_pos c31]; exact l_step (u_tried h hn _ _) _ _ kk
  rw [if_neg c31]
  by_cases c32 : op = 32
  · rw [if_pos c32]; exact l_step (u_image h) _ _ kk
  rw [if_neg c32]
  by_cases c33 : op = 33
  · rw [if_pos c33]; exact l_step (u_undo h) _ _ kk
  rw [if_neg c33]
  by_cases c34 : op = 34
  · rw [if_pos c34]; exact l_step (u_count h _) _ _ kk
  rw [if_neg c34]
  exact kk w (h.mono (Nat.le_succ i))
theorem law_run {L : Nat} (hL : L ≤ 3072) (xs : Nat → Int32) {w0 : zWd} (h0 : qInv 0 w0) : ∃ w' : zWd, mL_law_18 L xs 290 0 231 0 w0 = some (1, w') := by
  unfold mL_law_18
  refine zlp_R (R := fun (Y : Option (Int32 × zWd)) => ∃ w', Y = some (1, w')) (P := fun (i : Nat) (q : Int32 × zWd) => ∃ w, q = (nI (6 * i), w) ∧ qInv i w) (n := L / 6) (by unfold zFU; omega) ?_ ⟨w0, rfl, h0⟩
  rintro i hi q ⟨w, rfl, hw⟩ k hk
  show ∃ w', mL_law_18b L xs 290 0 231 k (nI (6 * i)) w = some (1, w')
  by_cases c : 6 * i + 6 ≤ L
  · exact l_turn hL c hw k (fun w' hw' => hk (by omega) _ ⟨w', rfl, hw'⟩)
  · have hlt : (Int32.ofNat L - (6 : Int32)) < nI (6 * i) := by
      have := nIs (a := L) (b := 6) (by omega) (by omega)
      rw [zlt, nIi (by omega), show (Int32.ofNat L - (6 : Int32)).toInt = (L : Int) - 6 from this]
      omega
    unfold mL_law_18b
    rw [if_pos hlt, zgd_t zB1]
    exact ⟨w, rfl⟩
