theorem y_nb : ∀ a, a < 30 → (a % 6 < 5 → qDs (nI a) (nI (a + 1)) = 1) ∧ (¬ a % 6 < 5 → ¬ qDs (nI a) (nI (a + 1)) = 1) ∧ (0 < a % 6 → qDs (nI a) (nI (a - 1)) = 1) ∧ (¬ 0 < a % 6 → 0 < a → ¬ qDs (nI a) (nI (a - 1)) = 1) ∧ (a < 24 → qDs (nI a) (nI (a + 6)) = 1) ∧ (6 ≤ a → qDs (nI a) (nI (a - 6)) = 1) := by decide +kernel
theorem y_212 (k169 K : Int32 × zWd → Option (Unit × zWd)) {a k m : Nat} (ha : a < 30) {s0 : Int32} (u : zWd) (hs : nI a + s0 = nI m) (hm : m < 30) (hd : qDs (nI a) (nI m) = 1) : mX12_flows_212 k169 K 231 (nI a) (nI k) s0 (nI a) u = K (nI (k + 1), zup (zup u 232 (20 + a) (u 232 (20 + a) + (u 238 m - u 238 a) / nI 8)) 232 (50 + a) (u 232 (50 + a) + (u 239 m - u 239 a) / nI 4)) := by
  unfold mX12_flows_212 mX12_flows_285
  have i10 : ¬ (1 : Int32) = 0 := by decide
  rw [hs, zbn_e, p_isCell, if_pos (zOk_nI (by omega) (by omega)), zcl_s, if_neg i10, p_apart, zcl_s, hd, if_pos rfl]
  simp (disch := (first | omega | (simp (disch := omega) only [zu1, zu2, zu3, nIi]; omega))) only [if_true, if_false, zE10, zE00, zOkN, Nat.reduceAdd, Nat.reduceMul, zcl_s, zif01, zbn_e, nIi, nI_clamp, nI_add, nI_1, pk_mul, zgi, zlt, zle, Int32.zero_add, Int32.add_zero, C0, C1, G0, G1, Nat.zero_add, Nat.add_zero, l2, l3, l4, l5, l6, l7, l8, l10, l11, l12, l20, l30, l48, l50, l60, l100, l120, l140, l152, l164, l176, l188, l200, l212, l224, l1604, l1880, l2000, l2008, l2016, l2024, l2032, l2040, l2048, l2210, l2240, l2270, l2300, l2330, l2390, l2450, l2510, l2570, l2590, l2620, l2650, l2660, l2700, T0, T1, Tm1, Tm99, Tm999, p_within, p_in, p_isCell, p_isOwner, p_isDay11, p_isDay12, p_isTap11, p_isTaker11, if_pos, if_neg, p_isTap12, p_isTaker12, p_isGone, zu1, zu2, zu3, nIe, Nat.reduceSub]
theorem y_212n (k169 K : Int32 × zWd → Option (Unit × zWd)) {a k : Nat} {s0 : Int32} (u : zWd) (hs : ¬ zOkN (nI a + s0) 30 ∨ ¬ qDs (nI a) (nI a + s0) = 1) : mX12_flows_212 k169 K 231 (nI a) (nI k) s0 (nI a) u = K (nI (k + 1), u) := by
  unfold mX12_flows_212 mX12_flows_285
  have i10 : ¬ (1 : Int32) = 0 := by decide
  rw [zbn_e, p_isCell]
  by_cases c : zOkN (nI a + s0) 30
  · rcases hs with h | h
    · exact absurd c h
    · rw [if_pos c, zcl_s, if_neg i10, p_apart, zcl_s, if_neg h, nI_succ]
  · rw [if_neg c, zcl_s, if_pos rfl, nI_succ]
theorem s_even12 {w : zWd} {E : Nat → Int32} (hE : ∀ j, j < 60 → 0 ≤ (E j).toInt ∧ (E j).toInt ≤ 9999) (h1 : ∀ j, j < 60 → w 232 (20 + j) = E j) (h2 : ∀ c, c < 30 → w 238 c = E c) (h3 : ∀ c, c < 30 → w 239 c = E (30 + c)) : ∃ w', mX12_flows_169 231 0 w = some ((), w') ∧ (∀ a, a ≠ 232 → w' a = w a) ∧ (∀ j, j < 60 → w' 232 (20 + j) = yD E j) ∧ ∀ j, j < 20 ∨ 80 ≤ j → w' 232 j = w 232 j := by
  unfold mX12_flows_169
  refine zlp_R (R := fun (Y : Option (Unit × zWd)) => ∃ w', Y = some ((), w') ∧ (∀ a, a ≠ 232 → w' a = w a) ∧ (∀ j, j < 60 → w' 232 (20 + j) = yD E j) ∧ ∀ j, j < 20 ∨ 80 ≤ j → w' 232 j = w 232 j)
    (P := fun (i : Nat) (q : Int32 × zWd) => ∃ u', q = (nI i, u') ∧ (∀ a, a ≠ 232 → u' a = w a) ∧ (∀ j, j < 30 → u' 232 (20 + j) = if j < i then yGs E (nI 8) 0 j 4 else E j) ∧ (∀ j, j < 30 → u' 232 (50 + j) = if j < i then yGs E (nI 4) 30 j 4 else E (30 + j)) ∧ ∀ j, j < 20 ∨ 80 ≤ j → u' 232 j = w 232 j) (n := 30) (by unfold zFU; omega) ?_ ⟨w, rfl, fun _ _ => rfl, fun j hj => by rw [if_neg (by omega)]; exact h1 j (by omega), fun j hj => by rw [if_neg (by omega), ← h1 _ (by omega)]; congr 1; omega, fun _ _ => rfl⟩
  rintro a hi q ⟨u1, rfl, g1, g2, g3, g4⟩ k169 hk
  by_cases e : a = 30
  · subst e
    simp only [mX12_flows_169b]
    rw [if_pos (by decide)]
    refine ⟨u1, rfl, g1, fun j hj => ?_, g4⟩
    unfold yD
    by_cases c : j < 30
    · rw [if_pos c, g2 j c, if_pos c, yGs_eq (by omega) c (fun j hj => by rw [Nat.zero_add]; exact hE j (by omega)), Nat.zero_add]
    · rw [if_neg c, if_pos hj]
      have := g3 (j - 30) (by omega)
      rw [show 50 + (j - 30) = 20 + j by omega] at this
      rw [this, if_pos (by omega), yGs_eq (by omega) (by omega) (fun j hj => hE _ (by omega)), show 30 + (j - 30) = j by omega]
  have ha : a < 30 := by omega
  simp only [mX12_flows_169b]
  rw [if_neg (show ¬ (30 : Int32) ≤ nI a from nI_ge (b := 30) (by omega) (by decide))]
  unfold mX12_flows_177
  refine zlp_R (R := fun (Y : Option (Unit × zWd)) => ∃ w', Y = some ((), w') ∧ (∀ a, a ≠ 232 → w' a = w a) ∧ (∀ j, j < 60 → w' 232 (20 + j) = yD E j) ∧ ∀ j, j < 20 ∨ 80 ≤ j → w' 232 j = w 232 j)
    (P := fun (i : Nat) (q : Int32 × zWd) => ∃ u', q = (nI i, u') ∧ (∀ a, a ≠ 232 → u' a = w a) ∧ u' 232 (20 + a) = yGs E (nI 8) 0 a i ∧ u' 232 (50 + a) = yGs E (nI 4) 30 a i ∧ ∀ j, j ≠ 20 + a → j ≠ 50 + a → u' 232 j = u1 232 j) (n := 4) (by unfold zFU; omega) ?_ ⟨u1, rfl, g1, by rw [g2 a ha, if_neg (by omega)]; show E a = E (0 + a); rw [Nat.zero_add], by rw [g3 a ha, if_neg (by omega)]; rfl, fun _ _ _ => rfl⟩
  rintro k hk4 q ⟨u2, rfl, q1, q2, q3, q4⟩ K hK
  simp only [mX12_flows_177b]
  by_cases ek : k = 4
  · subst ek
    rw [if_pos (by decide), ← nI_succ]
    refine hk ha _ ⟨u2, rfl, q1, fun j hj => ?_, fun j hj => ?_, fun j hj => by rw [q4 j (by omega) (by omega)]; exact g4 j hj⟩
    · by_cases c : j = a
      · rw [c, q2, if_pos (by omega)]
      · rw [q4 _ (by omega) (by omega), g2 j hj]
        by_cases c2 : j < a
        · rw [if_pos c2, if_pos (by omega)]
        · rw [if_neg c2, if_neg (by omega)]
    · by_cases c : j = a
      · rw [c, q3, if_pos (by omega)]
      · rw [q4 _ (by omega) (by omega), g3 j hj]
        by_cases c2 : j < a
        · rw [if_pos c2, if_pos (by omega)]
        · rw [if_neg c2, if_neg (by omega)]
  have hk2 : k < 4 := by omega
  rw [if_neg (show ¬ (4 : Int32) ≤ nI k from nI_ge (b := 4) (by omega) (by decide))]
  have s238 : ∀ c, c < 30 → u2 238 c = E (0 + c) := fun c hc => by rw [q1 238 (by decide), Nat.zero_add]; exact h2 c hc
  have s239 : ∀ c, c < 30 → u2 239 c = E (30 + c) := fun c hc => by rw [q1 239 (by decide)]; exact h3 c hc
  obtain ⟨b1, b2, b3, b4, b5, b6⟩ := y_nb a ha
  -- with a neighbour
  have put : ∀ (s0 : Int32) (m : Nat), nI a + s0 = nI m → m < 30 → qDs (nI a) (nI m) = 1 → yN E (nI 8) 0 a k = (E (0 + m) - E (0 + a)) / nI 8 → yN E (nI 4) 30 a k = (E (30 + m) - E (30 + a)) / nI 4 → ∃ w', mX12_flows_212 k169 K 231 (nI a) (nI k) s0 (nI a) u2 = some ((), w') ∧ (∀ a, a ≠ 232 → w' a = w a) ∧ (∀ j, j < 60 → w' 232 (20 + j) = yD E j) ∧ ∀ j, j < 20 ∨ 80 ≤ j → w' 232 j = w 232 j := by
    intro s0 m e1 e2 e3 e4 e5
    rw [y_212 k169 K ha u2 e1 e2 e3]
    refine hK hk2 _ ⟨_, rfl, fun x hx => by rw [zpE _ _ _ hx, zpE _ _ _ hx]; exact q1 x hx, ?_, ?_, fun j j1 j2 => by rw [zu2 _ _ j2, zu2 _ _ j1]; exact q4 j j1 j2⟩
    · rw [zu2 _ _ (by omega), zu3, q2, s238 m e2, s238 a ha, ← e4]; rfl
    · rw [zu3, q3, s239 m e2, s239 a ha, ← e5]; rfl
  have skip : ∀ (s0 : Int32), (¬ zOkN (nI a + s0) 30 ∨ ¬ qDs (nI a) (nI a + s0) = 1) → yN E (nI 8) 0 a k = 0 → yN E (nI 4) 30 a k = 0 → ∃ w', mX12_flows_212 k169 K 231 (nI a) (nI k) s0 (nI a) u2 = some ((), w') ∧ (∀ a, a ≠ 232 → w' a = w a) ∧ (∀ j, j < 60 → w' 232 (20 + j) = yD E j) ∧ ∀ j, j < 20 ∨ 80 ≤ j → w' 232 j = w 232 j := by
    intro s0 e1 e4 e5
    rw [y_212n k169 K u2 e1]
    refine hK hk2 _ ⟨u2, rfl, q1, ?_, ?_, q4⟩
    · rw [q2]
      show _ = yGs E (nI 8) 0 a k + yN E (nI 8) 0 a k
      rw [e4, Int32.add_zero]
    · rw [q3]
      show _ = yGs E (nI 4) 30 a k + yN E (nI 4) 30 a k
      rw [e5, Int32.add_zero]
  clear hK hk
  rcases (show k = 0 ∨ k = 1 ∨ k = 2 ∨ k = 3 by omega) with rfl | rfl | rfl | rfl
  · rw [if_pos (show (nI 0 : Int32) = 0 from rfl)]
    have e1 : nI a + 1 = nI (a + 1) := nI_1 a
    by_cases c : a % 6 < 5
    · exact put 1 (a + 1) e1 (by omega) (b1 c) ((if_pos rfl).trans (if_pos c)) ((if_pos rfl).trans (if_pos c))
    · exact skip 1 (Or.inr (by rw [e1]; exact b2 c)) ((if_pos rfl).trans (if_neg c)) ((if_pos rfl).trans (if_neg c))
  · rw [if_neg (show ¬ (nI 1 : Int32) = 0 by decide), if_pos (show (nI 1 : Int32) = 1 from rfl)]
    by_cases c0 : 0 < a
    · have e1 : nI a + -1 = nI (a - 1) := by
        have := nI_m1 (i := a - 1)
        rwa [show a - 1 + 1 = a by omega] at this
      by_cases c : 0 < a % 6
      · exact put (-1) (a - 1) e1 (by omega) (b3 c) ((if_neg (by decide)).trans ((if_pos rfl).trans (if_pos c))) ((if_neg (by decide)).trans ((if_pos rfl).trans (if_pos c)))
      · exact skip (-1) (Or.inr (by rw [e1]; exact b4 c c0)) ((if_neg (by decide)).trans ((if_pos rfl).trans (if_neg c))) ((if_neg (by decide)).trans ((if_pos rfl).trans (if_neg c)))
    · have a0 : a = 0 := by omega
      have c : ¬ 0 < a % 6 := by omega
      refine skip (-1) (Or.inl ?_) ((if_neg (by decide)).trans ((if_pos rfl).trans (if_neg c))) ((if_neg (by decide)).trans ((if_pos rfl).trans (if_neg c)))
      rw [a0]
      intro q
      exact absurd q.1 (by decide)
  · rw [if_neg (show ¬ (nI 2 : Int32) = 0 by decide), if_neg (show ¬ (nI 2 : Int32) = 1 by decide), if_pos (show (nI 2 : Int32) = 2 from rfl)]
    have e1 : nI a + 6 = nI (a + 6) := nI_add a 6
    by_cases c : a < 24
    · exact put 6 (a + 6) e1 (by omega) (b5 c) ((if_neg (by decide)).trans ((if_neg (by decide)).trans ((if_pos rfl).trans (if_pos c)))) ((if_neg (by decide)).trans ((if_neg (by decide)).trans ((if_pos rfl).trans (if_pos c))))
    · refine skip 6 (Or.inl ?_) ((if_neg (by decide)).trans ((if_neg (by decide)).trans ((if_pos rfl).trans (if_neg c)))) ((if_neg (by decide)).trans ((if_neg (by decide)).trans ((if_pos rfl).trans (if_neg c))))
      rw [e1]
      intro q
      have := q.2
      rw [nIi (by omega)] at this
      omega
  · rw [if_neg (show ¬ (nI 3 : Int32) = 0 by decide), if_neg (show ¬ (nI 3 : Int32) = 1 by decide), if_neg (show ¬ (nI 3 : Int32) = 2 by decide)]
    have e0 : nI a + -6 = nI a - nI 6 := (Int32.sub_eq_add_neg (nI a) 6).symm
    by_cases c : 6 ≤ a
    · have e1 : nI a + -6 = nI (a - 6) := e0.trans (pk_sub c)
      exact put (-6) (a - 6) e1 (by omega) (b6 c) ((if_neg (by decide)).trans ((if_neg (by decide)).trans ((if_neg (by decide)).trans (if_pos c)))) ((if_neg (by decide)).trans ((if_neg (by decide)).trans ((if_neg (by decide)).trans (if_pos c))))
    · refine skip (-6) (Or.inl ?_) ((if_neg (by decide)).trans ((if_neg (by decide)).trans ((if_neg (by decide)).trans (if_neg c)))) ((if_neg (by decide)).trans ((if_neg (by decide)).trans ((if_neg (by decide)).trans (if_neg c))))
      rw [e0]
      intro q
      have := q.1
      rw [nIs (by omega) (by omega)] at this
      omega
section YM2
variable {kd tn sh : Nat → Int32} {cl : Nat → Nat} {T : Nat}
theorem s_day12 {w : zWd} {C : Nat → Int32} (hT : T ≤ 12) (hP : yTp kd tn cl T) (hR : yRg C) (e1 : w 232 1 = nI T) (hC : ∀ j, j < 120 → w 232 (20 + j) = C j) (k0 : ∀ t, t < T → w 232 (140 + t) = kd t) (k1 : ∀ t, t < T → w 232 (152 + t) = nI (cl t)) (k2 : ∀ t, t < T → w 232 (164 + t) = tn t) (k3 : ∀ t, t < T → w 232 (188 + t) = sh t) (hs : ∀ t, t < T → sh t = 0 ∨ sh t = 1) :
    ∃ w', mX12_flows 231 w = some ((), w') ∧ (∀ a, a ≠ 232 → a < 234 ∨ 239 < a → w' a = w a) ∧ (∀ j, j < 60 → w' 232 (20 + j) = yDy kd tn sh cl T C j) ∧ (∀ j, j < 20 ∨ 80 ≤ j → j < 224 ∨ 224 + T ≤ j → w' 232 j = w 232 j) ∧ (∀ t, t < T → w' 232 (224 + t) = w 232 (224 + t) + yI (yVt kd tn sh cl C t) (yHt kd tn sh cl C t)) ∧ ∀ t q, t < T → q < 4 → w' (234 + q) t = yF (yVt kd tn sh cl C t) (yHt kd tn sh cl C t) (w 232 (224 + t)) (w 232 (212 + t)) q := by
  have hR2 := yRg_2 (sh := sh) hP (yRg_1 hR) T (Nat.le_refl T)
  have hE : ∀ j, j < 60 → 0 ≤ (yC2 kd tn sh cl (yC1 C) T j).toInt ∧ (yC2 kd tn sh cl (yC1 C) T j).toInt ≤ 9999 := fun j hj => by
    by_cases c : j < 30
    · have := (hR2 j c).1; omega
    · have := (hR2 (j - 30) (by omega)).2.1
      rw [show 30 + (j - 30) = j by omega] at this
      exact this
  -- the snap
  have l125 : ∀ u : zWd, (∀ a, a ≠ 232 → a < 234 ∨ 239 < a → u a = w a) → (∀ j, j < 60 → u 232 (20 + j) = yC2 kd tn sh cl (yC1 C) T j) → (∀ j, j < 20 ∨ 80 ≤ j → j < 224 ∨ 224 + T ≤ j → u 232 j = w 232 j) → (∀ t, t < T → u 232 (224 + t) = w 232 (224 + t) + yI (yVt kd tn sh cl C t) (yHt kd tn sh cl C t)) → (∀ t q, t < T → q < 4 → u (234 + q) t = yF (yVt kd tn sh cl C t) (yHt kd tn sh cl C t) (w 232 (224 + t)) (w 232 (212 + t)) q) → ∃ w', mX12_flows_125 231 0 u = some ((), w') ∧ (∀ a, a ≠ 232 → a < 234 ∨ 239 < a → w' a = w a) ∧ (∀ j, j < 60 → w' 232 (20 + j) = yDy kd tn sh cl T C j) ∧ (∀ j, j < 20 ∨ 80 ≤ j → j < 224 ∨ 224 + T ≤ j → w' 232 j = w 232 j) ∧ (∀ t, t < T → w' 232 (224 + t) = w 232 (224 + t) + yI (yVt kd tn sh cl C t) (yHt kd tn sh cl C t)) ∧ ∀ t q, t < T → q < 4 → w' (234 + q) t = yF (yVt kd tn sh cl C t) (yHt kd tn sh cl C t) (w 232 (224 + t)) (w 232 (212 + t)) q := by
    intro u p1 p2 p3 p4 p5
    unfold mX12_flows_125
    refine zlp_R (R := fun (Y : Option (Unit × zWd)) => ∃ w', Y = some ((), w') ∧ (∀ a, a ≠ 232 → a < 234 ∨ 239 < a → w' a = w a) ∧ (∀ j, j < 60 → w' 232 (20 + j) = yDy kd tn sh cl T C j) ∧ (∀ j, j < 20 ∨ 80 ≤ j → j < 224 ∨ 224 + T ≤ j → w' 232 j = w 232 j) ∧ (∀ t, t < T → w' 232 (224 + t) = w 232 (224 + t) + yI (yVt kd tn sh cl C t) (yHt kd tn sh cl C t)) ∧ ∀ t q, t < T → q < 4 → w' (234 + q) t = yF (yVt kd tn sh cl C t) (yHt kd tn sh cl C t) (w 232 (224 + t)) (w 232 (212 + t)) q)
      (P := fun (i : Nat) (q : Int32 × zWd) => ∃ u', q = (nI i, u') ∧ (∀ a, a ≠ 238 → a ≠ 239 → u' a = u a) ∧ (∀ j, j < i → u' 238 j = yC2 kd tn sh cl (yC1 C) T j) ∧ ∀ j, j < i → u' 239 j = yC2 kd tn sh cl (yC1 C) T (30 + j)) (n := 30) (by unfold zFU; omega) ?_ ⟨u, rfl, fun _ _ _ => rfl, fun j hj => absurd hj (by omega), fun j hj => absurd hj (by omega)⟩
    rintro i hi q ⟨u1, rfl, g1, g2, g3⟩ k hk
    simp only [mX12_flows_125b]
    have e232 : u1 232 = u 232 := g1 232 (by decide) (by decide)
    by_cases e : i = 30
    · subst e
      rw [if_pos (by decide)]
      obtain ⟨u2, m1, m2, m3, m4⟩ := s_even12 (w := u1) hE (fun j hj => by rw [e232]; exact p2 j hj) g2 g3
      refine ⟨u2, m1, fun a h1 h2 => ?_, m3, fun j h1 h2 => ?_, fun t ht => ?_, fun t q ht hq => ?_⟩
      · rw [m2 a h1, g1 a (by omega) (by omega)]; exact p1 a h1 h2
      · rw [m4 j h1, e232]; exact p3 j h1 h2
      · rw [m4 _ (by omega), e232]; exact p4 t ht
      · rw [m2 _ (by omega), g1 _ (by omega) (by omega)]; exact p5 t q ht hq
    · have hi2 : i < 30 := by omega
      have f1 := p2 i (by omega)
      have f2 := p2 (30 + i) (by omega)
      rw [show 20 + (30 + i) = 50 + i by omega] at f2
      have hk' := hk hi2 (nI (i + 1), zup (zup u1 238 i (yC2 kd tn sh cl (yC1 C) T i)) 239 i (yC2 kd tn sh cl (yC1 C) T (30 + i))) ⟨_, rfl, fun a h8 h9 => by rw [zpE _ _ _ h9, zpE _ _ _ h8]; exact g1 a h8 h9, fun j hj => ?_, fun j hj => ?_⟩
      · simp (disch := (first | omega | (simp (disch := omega) only [zu1, zu2, zu3, nIi, e232, f1, f2]; omega))) only [if_true, if_false, zE10, zE00, zOkN, Nat.reduceAdd, Nat.reduceMul, zcl_s, zif01, zbn_e, nIi, nI_clamp, nI_add, nI_1, pk_mul, zgi, zlt, zle, Int32.zero_add, Int32.add_zero, C0, C1, G0, G1, Nat.zero_add, Nat.add_zero, l2, l3, l4, l5, l6, l7, l8, l10, l11, l12, l20, l30, l48, l50, l60, l100, l120, l140, l152, l164, l176, l188, l200, l212, l224, l1604, l1880, l2000, l2008, l2016, l2024, l2032, l2040, l2048, l2210, l2240, l2270, l2300, l2330, l2390, l2450, l2510, l2570, l2590, l2620, l2650, l2660, l2700, T0, T1, Tm1, Tm99, Tm999, p_within, p_in, p_isCell, p_isOwner, p_isDay11, p_isDay12, p_isTap11, p_isTaker11, if_pos, if_neg, p_isTap12, p_isTaker12, p_isGone, zu1, zu2, zu3, nIe, Nat.reduceSub, e232, f1, f2]
        exact hk'
      · rw [zpE _ _ _ (by decide)]
        by_cases c : j = i
        · rw [c, zu3]
        · rw [zu2 _ _ c]; exact g2 j (by omega)
      · by_cases c : j = i
        · rw [c, zu3]
        · rw [zu2 _ _ c, zpE _ _ _ (by decide)]; exact g3 j (by omega)
  -- taps
  have l102 : ∀ u : zWd, (∀ a, a ≠ 232 → u a = w a) → (∀ j, j < 60 → u 232 (20 + j) = yC1 C j) → (∀ j, j < 20 ∨ 80 ≤ j → u 232 j = w 232 j) → ∃ w', mX12_flows_102 231 0 u = some ((), w') ∧ (∀ a, a ≠ 232 → a < 234 ∨ 239 < a → w' a = w a) ∧ (∀ j, j < 60 → w' 232 (20 + j) = yDy kd tn sh cl T C j) ∧ (∀ j, j < 20 ∨ 80 ≤ j → j < 224 ∨ 224 + T ≤ j → w' 232 j = w 232 j) ∧ (∀ t, t < T → w' 232 (224 + t) = w 232 (224 + t) + yI (yVt kd tn sh cl C t) (yHt kd tn sh cl C t)) ∧ ∀ t q, t < T → q < 4 → w' (234 + q) t = yF (yVt kd tn sh cl C t) (yHt kd tn sh cl C t) (w 232 (224 + t)) (w 232 (212 + t)) q := by
    intro u p1 p2 p3
    unfold mX12_flows_102
    refine zlp_R (R := fun (Y : Option (Unit × zWd)) => ∃ w', Y = some ((), w') ∧ (∀ a, a ≠ 232 → a < 234 ∨ 239 < a → w' a = w a) ∧ (∀ j, j < 60 → w' 232 (20 + j) = yDy kd tn sh cl T C j) ∧ (∀ j, j < 20 ∨ 80 ≤ j → j < 224 ∨ 224 + T ≤ j → w' 232 j = w 232 j) ∧ (∀ t, t < T → w' 232 (224 + t) = w 232 (224 + t) + yI (yVt kd tn sh cl C t) (yHt kd tn sh cl C t)) ∧ ∀ t q, t < T → q < 4 → w' (234 + q) t = yF (yVt kd tn sh cl C t) (yHt kd tn sh cl C t) (w 232 (224 + t)) (w 232 (212 + t)) q)
      (P := fun (i : Nat) (q : Int32 × zWd) => ∃ u', q = (nI i, u') ∧ (∀ a, a ≠ 232 → a < 234 ∨ 237 < a → u' a = w a) ∧ (∀ j, j < 60 → u' 232 (20 + j) = yC2 kd tn sh cl (yC1 C) i j) ∧ (∀ j, j < 20 ∨ 80 ≤ j → j < 224 ∨ 224 + i ≤ j → u' 232 j = w 232 j) ∧ (∀ t, t < i → u' 232 (224 + t) = w 232 (224 + t) + yI (yVt kd tn sh cl C t) (yHt kd tn sh cl C t)) ∧ ∀ t q, t < i → q < 4 → u' (234 + q) t = yF (yVt kd tn sh cl C t) (yHt kd tn sh cl C t) (w 232 (224 + t)) (w 232 (212 + t)) q) (n := T) (by unfold zFU; omega) ?_ ⟨u, rfl, fun a h1 _ => p1 a h1, p2, fun j h1 _ => p3 j h1, fun t ht => absurd ht (by omega), fun t q ht => absurd ht (by omega)⟩
    rintro i hi q ⟨u1, rfl, g1, g2, g3, g4, g5⟩ k hk
    simp only [mX12_flows_102b]
    have et : u1 232 1 = nI T := by rw [g3 1 (by omega) (by omega)]; exact e1
    by_cases e : i = T
    · subst e
      have := l125 u1 (fun a h1 h2 => g1 a h1 (by omega)) g2 g3 g4 g5
      simp (disch := (first | omega | (simp (disch := omega) only [zu1, zu2, zu3, nIi, et]; omega))) only [if_true, if_false, zE10, zE00, zOkN, Nat.reduceAdd, Nat.reduceMul, zcl_s, zif01, zbn_e, nIi, nI_clamp, nI_add, nI_1, pk_mul, zgi, zlt, zle, Int32.zero_add, Int32.add_zero, C0, C1, G0, G1, Nat.zero_add, Nat.add_zero, l2, l3, l4, l5, l6, l7, l8, l10, l11, l12, l20, l30, l48, l50, l60, l100, l120, l140, l152, l164, l176, l188, l200, l212, l224, l1604, l1880, l2000, l2008, l2016, l2024, l2032, l2040, l2048, l2210, l2240, l2270, l2300, l2330, l2390, l2450, l2510, l2570, l2590, l2620, l2650, l2660, l2700, T0, T1, Tm1, Tm99, Tm999, p_within, p_in, p_isCell, p_isOwner, p_isDay11, p_isDay12, p_isTap11, p_isTaker11, if_pos, if_neg, p_isTap12, p_isTaker12, p_isGone, zu1, zu2, zu3, nIe, Nat.reduceSub, et]
      exact this
    have hi2 : i < T := by omega
    have hrg := (yRg_2 (sh := sh) hP (yRg_1 hR) i (by omega) (cl i) (hP i hi2).1).2.1
    have hv := yV_rg (sh := sh) hP hi2 hrg
    have hC2 : ∀ j, j < 120 → u1 232 (20 + j) = yC2 kd tn sh cl (yC1 C) i j := fun j hj => by
      by_cases c : j < 60
      · exact g2 j c
      · rw [g3 _ (by omega) (by omega), hC j hj]
        have : ∀ m, yC2 kd tn sh cl (yC1 C) m j = C j ∨ T < m := fun m => by
          induction m with
          | zero => left; show yC1 C j = C j; unfold yC1; rw [if_neg (by omega), if_neg (by omega)]
          | succ m ih =>
            by_cases hm : m < T
            · left
              show upd (yC2 kd tn sh cl (yC1 C) m) (30 + cl m) _ j = _
              rw [qu_ne _ _ (by have := (hP m hm).1; omega)]
              rcases ih with h | h
              · exact h
              · omega
            · right; omega
        rcases this i with h | h
        · exact h.symm
        · omega
    have k0' : u1 232 (140 + i) = kd i := by rw [g3 _ (by omega) (by omega)]; exact k0 i hi2
    have k1' : u1 232 (152 + i) = nI (cl i) := by rw [g3 _ (by omega) (by omega)]; exact k1 i hi2
    have k2' : u1 232 (164 + i) = tn i := by rw [g3 _ (by omega) (by omega)]; exact k2 i hi2
    have k3' : u1 232 (188 + i) = sh i := by rw [g3 _ (by omega) (by omega)]; exact k3 i hi2
    obtain ⟨u2, m1, m2, m3, m4, m5⟩ := s_give12 (w := u1) (C := yC2 kd tn sh cl (yC1 C) i) (t := i) (by omega) (hP i hi2).1 hC2 k0' k1' k2' k3' (hs i hi2) (by omega)
    have f224 : u1 232 (224 + i) = w 232 (224 + i) := g3 _ (by omega) (by omega)
    have f212 : u1 232 (212 + i) = w 232 (212 + i) := g3 _ (by omega) (by omega)
    rw [f224] at m3 m4
    rw [f212] at m4
    have hk' := hk hi2 (nI (i + 1), u2) ⟨u2, rfl, fun a h1 h2 => ?_, fun j hj => ?_, fun j h1 h2 => ?_, fun t ht => ?_, fun t q ht hq => ?_⟩
    · simp (disch := (first | omega | (simp (disch := omega) only [zu1, zu2, zu3, nIi, et, m1]; omega))) only [if_true, if_false, zE10, zE00, zOkN, Nat.reduceAdd, Nat.reduceMul, zcl_s, zif01, zbn_e, nIi, nI_clamp, nI_add, nI_1, pk_mul, zgi, zlt, zle, Int32.zero_add, Int32.add_zero, C0, C1, G0, G1, Nat.zero_add, Nat.add_zero, l2, l3, l4, l5, l6, l7, l8, l10, l11, l12, l20, l30, l48, l50, l60, l100, l120, l140, l152, l164, l176, l188, l200, l212, l224, l1604, l1880, l2000, l2008, l2016, l2024, l2032, l2040, l2048, l2210, l2240, l2270, l2300, l2330, l2390, l2450, l2510, l2570, l2590, l2620, l2650, l2660, l2700, T0, T1, Tm1, Tm99, Tm999, p_within, p_in, p_isCell, p_isOwner, p_isDay11, p_isDay12, p_isTap11, p_isTaker11, if_pos, if_neg, p_isTap12, p_isTaker12, p_isGone, zu1, zu2, zu3, nIe, Nat.reduceSub, et, m1]
      exact hk'
    · rw [m2 a h1 (by omega) (by omega) (by omega) (by omega)]; exact g1 a h1 h2
    · rw [m3]
      show _ = upd (yC2 kd tn sh cl (yC1 C) i) (30 + cl i) _ j
      by_cases c : j = 30 + cl i
      · rw [if_pos (by omega), c, qu_eq]
      · rw [if_neg (by omega), if_neg (by omega), qu_ne _ _ c]; exact g2 j hj
    · rw [m3, if_neg (by have := (hP i hi2).1; omega), if_neg (by omega)]; exact g3 j h1 (by omega)
    · rw [m3, if_neg (by have := (hP i hi2).1; omega)]
      by_cases c : t = i
      · rw [c, if_pos rfl]; rfl
      · rw [if_neg (by omega)]; exact g4 t (by omega)
    · by_cases c : t = i
      · rw [c, m4 q hq]; rfl
      · rw [m5 q t hq c]; exact g5 t q (by omega) hq
  unfold mX12_flows mX12_flows_2
  refine zlp_R (R := fun (Y : Option (Unit × zWd)) => ∃ w', Y = some ((), w') ∧ (∀ a, a ≠ 232 → a < 234 ∨ 239 < a → w' a = w a) ∧ (∀ j, j < 60 → w' 232 (20 + j) = yDy kd tn sh cl T C j) ∧ (∀ j, j < 20 ∨ 80 ≤ j → j < 224 ∨ 224 + T ≤ j → w' 232 j = w 232 j) ∧ (∀ t, t < T → w' 232 (224 + t) = w 232 (224 + t) + yI (yVt kd tn sh cl C t) (yHt kd tn sh cl C t)) ∧ ∀ t q, t < T → q < 4 → w' (234 + q) t = yF (yVt kd tn sh cl C t) (yHt kd tn sh cl C t) (w 232 (224 + t)) (w 232 (212 + t)) q)
    (P := fun (i : Nat) (q : Int32 × zWd) => ∃ u', q = (nI i, u') ∧ (∀ a, a ≠ 232 → u' a = w a) ∧ (∀ j, j < 60 → u' 232 (20 + j) = if j < i ∨ (30 ≤ j ∧ j < 30 + i) then yC1 C j else C j) ∧ ∀ j, j < 20 ∨ 80 ≤ j → u' 232 j = w 232 j) (n := 30) (by unfold zFU; omega) ?_ ⟨w, rfl, fun _ _ => rfl, fun j hj => by rw [if_neg (by omega)]; exact hC j (by omega), fun _ _ => rfl⟩
  rintro i hi q ⟨u1, rfl, g1, g2, g3⟩ k hk
  simp only [mX12_flows_2b]
  by_cases e : i = 30
  · subst e
    rw [if_pos (by decide)]
    exact l102 u1 g1 (fun j hj => by rw [g2 j hj, if_pos (by omega)]) g3
  have hi2 : i < 30 := by omega
  have f1 : u1 232 (20 + i) = C i := by rw [g2 i (by omega), if_neg (by omega)]
  have f2 : u1 232 (50 + i) = C (30 + i) := by rw [show 50 + i = 20 + (30 + i) by omega, g2 (30 + i) (by omega), if_neg (by omega)]
  have f3 : u1 232 (80 + i) = C (60 + i) := by rw [g3 _ (by omega), show 80 + i = 20 + (60 + i) by omega]; exact hC _ (by omega)
  have f4 : u1 232 (110 + i) = C (90 + i) := by rw [g3 _ (by omega), show 110 + i = 20 + (90 + i) by omega]; exact hC _ (by omega)
  have c1 : yC1 C i = yMn 1500 (C i + C (60 + i)) := if_pos hi2
  have c2 : yC1 C (30 + i) = yMn 9999 (C (30 + i) + C (90 + i)) := by
    unfold yC1
    rw [if_neg (by omega), if_pos (by omega), show 60 + (30 + i) = 90 + i by omega]
  have hk' := hk hi2 (nI (i + 1), zup (zup u1 232 (20 + i) (yC1 C i)) 232 (50 + i) (yC1 C (30 + i))) ⟨_, rfl, fun a ha => by rw [zpE _ _ _ ha, zpE _ _ _ ha]; exact g1 a ha, fun j hj => ?_, fun j hj => by rw [zu2 _ _ (by omega), zu2 _ _ (by omega)]; exact g3 j hj⟩
  · have s70 : ∀ x, yC1 C i = x → mX12_flows_70 k 231 (nI i) (C (30 + i) + C (90 + i)) x (nI (20 + i)) 232 u1 = k (nI (i + 1), zup (zup u1 232 (20 + i) (yC1 C i)) 232 (50 + i) (yC1 C (30 + i))) := by
      intro x hx
      unfold mX12_flows_70 mX12_flows_93
      rw [hx, c2]
      unfold yMn
      by_cases c : (C (30 + i) + C (90 + i)).toInt ≤ (9999 : Int32).toInt
      · rw [if_pos c]
        simp (disch := (first | omega | (simp (disch := omega) only [zu1, zu2, zu3, nIi]; omega))) only [if_true, if_false, zE10, zE00, zOkN, Nat.reduceAdd, Nat.reduceMul, zcl_s, zif01, zbn_e, nIi, nI_clamp, nI_add, nI_1, pk_mul, zgi, zlt, zle, Int32.zero_add, Int32.add_zero, C0, C1, G0, G1, Nat.zero_add, Nat.add_zero, l2, l3, l4, l5, l6, l7, l8, l10, l11, l12, l20, l30, l48, l50, l60, l100, l120, l140, l152, l164, l176, l188, l200, l212, l224, l1604, l1880, l2000, l2008, l2016, l2024, l2032, l2040, l2048, l2210, l2240, l2270, l2300, l2330, l2390, l2450, l2510, l2570, l2590, l2620, l2650, l2660, l2700, T0, T1, Tm1, Tm99, Tm999, p_within, p_in, p_isCell, p_isOwner, p_isDay11, p_isDay12, p_isTap11, p_isTaker11, if_pos, if_neg, p_isTap12, p_isTaker12, p_isGone, zu1, zu2, zu3, nIe, Nat.reduceSub]
      · rw [if_neg c]
        simp (disch := (first | omega | (simp (disch := omega) only [zu1, zu2, zu3, nIi]; omega))) only [if_true, if_false, zE10, zE00, zOkN, Nat.reduceAdd, Nat.reduceMul, zcl_s, zif01, zbn_e, nIi, nI_clamp, nI_add, nI_1, pk_mul, zgi, zlt, zle, Int32.zero_add, Int32.add_zero, C0, C1, G0, G1, Nat.zero_add, Nat.add_zero, l2, l3, l4, l5, l6, l7, l8, l10, l11, l12, l20, l30, l48, l50, l60, l100, l120, l140, l152, l164, l176, l188, l200, l212, l224, l1604, l1880, l2000, l2008, l2016, l2024, l2032, l2040, l2048, l2210, l2240, l2270, l2300, l2330, l2390, l2450, l2510, l2570, l2590, l2620, l2650, l2660, l2700, T0, T1, Tm1, Tm99, Tm999, p_within, p_in, p_isCell, p_isOwner, p_isDay11, p_isDay12, p_isTap11, p_isTaker11, if_pos, if_neg, p_isTap12, p_isTaker12, p_isGone, zu1, zu2, zu3, nIe, Nat.reduceSub]
    by_cases c : (C i + C (60 + i)).toInt ≤ (1500 : Int32).toInt
    · have h := s70 _ (c1.trans (if_pos c))
      simp (disch := (first | omega | (simp (disch := omega) only [zu1, zu2, zu3, nIi, f1, f2, f3, f4, show (80 : Int32) = nI 80 from rfl, show (110 : Int32) = nI 110 from rfl]; omega))) only [if_true, if_false, zE10, zE00, zOkN, Nat.reduceAdd, Nat.reduceMul, zcl_s, zif01, zbn_e, nIi, nI_clamp, nI_add, nI_1, pk_mul, zgi, zlt, zle, Int32.zero_add, Int32.add_zero, C0, C1, G0, G1, Nat.zero_add, Nat.add_zero, l2, l3, l4, l5, l6, l7, l8, l10, l11, l12, l20, l30, l48, l50, l60, l100, l120, l140, l152, l164, l176, l188, l200, l212, l224, l1604, l1880, l2000, l2008, l2016, l2024, l2032, l2040, l2048, l2210, l2240, l2270, l2300, l2330, l2390, l2450, l2510, l2570, l2590, l2620, l2650, l2660, l2700, T0, T1, Tm1, Tm99, Tm999, p_within, p_in, p_isCell, p_isOwner, p_isDay11, p_isDay12, p_isTap11, p_isTaker11, if_pos, if_neg, p_isTap12, p_isTaker12, p_isGone, zu1, zu2, zu3, nIe, Nat.reduceSub, f1, f2, f3, f4, show (80 : Int32) = nI 80 from rfl, show (110 : Int32) = nI 110 from rfl]
      rw [h]
      exact hk'
    · have h := s70 _ (c1.trans (if_neg c))
      simp (disch := (first | omega | (simp (disch := omega) only [zu1, zu2, zu3, nIi, f1, f2, f3, f4, show (80 : Int32) = nI 80 from rfl, show (110 : Int32) = nI 110 from rfl]; omega))) only [if_true, if_false, zE10, zE00, zOkN, Nat.reduceAdd, Nat.reduceMul, zcl_s, zif01, zbn_e, nIi, nI_clamp, nI_add, nI_1, pk_mul, zgi, zlt, zle, Int32.zero_add, Int32.add_zero, C0, C1, G0, G1, Nat.zero_add, Nat.add_zero, l2, l3, l4, l5, l6, l7, l8, l10, l11, l12, l20, l30, l48, l50, l60, l100, l120, l140, l152, l164, l176, l188, l200, l212, l224, l1604, l1880, l2000, l2008, l2016, l2024, l2032, l2040, l2048, l2210, l2240, l2270, l2300, l2330, l2390, l2450, l2510, l2570, l2590, l2620, l2650, l2660, l2700, T0, T1, Tm1, Tm99, Tm999, p_within, p_in, p_isCell, p_isOwner, p_isDay11, p_isDay12, p_isTap11, p_isTaker11, if_pos, if_neg, p_isTap12, p_isTaker12, p_isGone, zu1, zu2, zu3, nIe, Nat.reduceSub, f1, f2, f3, f4, show (80 : Int32) = nI 80 from rfl, show (110 : Int32) = nI 110 from rfl]
      rw [h]
      exact hk'
  · by_cases e5 : 20 + j = 50 + i
    · rw [e5, zu3, if_pos (by omega), show j = 30 + i by omega]
    · rw [zu2 _ _ e5]
      by_cases e2 : 20 + j = 20 + i
      · rw [e2, zu3, if_pos (by omega), show j = i by omega]
      · rw [zu2 _ _ e2, g2 j hj]
        by_cases c : j < i ∨ (30 ≤ j ∧ j < 30 + i)
        · rw [if_pos c, if_pos (by omega)]
        · rw [if_neg c, if_neg (by omega)]
end YM2
