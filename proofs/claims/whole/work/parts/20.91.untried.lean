/-! what an order tried leaves -/
theorem yRl_text {c c' : Nat → Nat → Int32} {s s' p : Nat → Int32} {K M : Nat} (h : qRl c s p) (hK : K ≤ 10) (h2 : s 2 = nI K) (hM : M = K)
    (hc : ∀ o, (o < 15 + 6 * K ∨ 20 + 6 * K < o) → o ≠ 11 → o ≠ 13 → c' o = c o) (hc11 : c' 11 0 = 0) (hc13 : c' 13 0 = nI M)
    (hs : ∀ j, j ≠ 6 → j ≠ 2 → (j < 240 ∨ 1880 ≤ j) → s' j = s j) (hs6 : s' 6 = 0) (hs2 : s' 2 = nI M)
    (ho : ∀ a j, a < K → (j = 240 + a ∨ j = 252 + a ∨ (264 + 120 * a ≤ j ∧ j < 264 + 120 * a + 120) ∨ j = 1600 + a ∨ (1612 + 8 * a ≤ j ∧ j < 1612 + 8 * a + 8) ∨ (1700 + 8 * a ≤ j ∧ j < 1700 + 8 * a + 8) ∨ (1790 + 8 * a ≤ j ∧ j < 1790 + 8 * a + 8)) → s' j = s j)
    (hn : M = K + 1 → qOr1 c' s' K) : qRl c' s' p := by
  obtain ⟨hT, hG, hTp, hD, hC, hP, hL, hO⟩ := h
  have s0 : ∀ j, j ≠ 6 → j ≠ 2 → (j < 240 ∨ 1880 ≤ j) → s' j = s j := hs
  have c0 : ∀ o, (o < 15 ∨ 80 < o) → o ≠ 11 → o ≠ 13 → c' o = c o := fun o o1 o2 o3 => hc o (by omega) o2 o3
  refine ⟨?_, ?_, ?_, ?_, ?_, ?_, ?_, ?_⟩
  · intro q hq i hi
    rcases qBk_t q hq with rfl | rfl | ⟨k1, k2, k3, k4, k5⟩
    · obtain rfl : i = 0 := by simp only at hi; omega
      show c' 11 0 = s' 6
      rw [hc11, hs6]
    · obtain rfl : i = 0 := by simp only at hi; omega
      show c' 13 0 = s' 2
      rw [hc13, hs2]
    · rw [c0 _ k1 k2 k3, s0 _ (by omega) (by omega) (by omega)]
      exact hT q hq i hi
  · intro q hq i hi
    rcases qRb_t q hq with rfl | rfl | ⟨k4, k5⟩
    · obtain rfl : i = 0 := by simp only at hi; omega
      show 0 ≤ (s' 6).toInt ∧ (s' 6).toInt ≤ 120
      rw [hs6]; decide
    · obtain rfl : i = 0 := by simp only at hi; omega
      show 0 ≤ (s' 2).toInt ∧ (s' 2).toInt ≤ 10
      rw [hs2, nIi (by omega)]; omega
    · rw [s0 _ (by omega) (by omega) (by omega)]
      exact hG q hq i hi
  · intro t ht
    rw [s0 1 (by omega) (by omega) (by omega), s0 (140 + t) (by omega) (by omega) (by omega), s0 (152 + t) (by omega) (by omega) (by omega), s0 (164 + t) (by omega) (by omega) (by omega), s0 (188 + t) (by omega) (by omega) (by omega), s0 (212 + t) (by omega) (by omega) (by omega), s0 (224 + t) (by omega) (by omega) (by omega), c0 3 (by omega) (by omega) (by omega), c0 4 (by omega) (by omega) (by omega), c0 5 (by omega) (by omega) (by omega), c0 1 (by omega) (by omega) (by omega)]
    exact hTp t ht
  · unfold qDr
    rw [c0 93 (by omega) (by omega) (by omega), c0 98 (by omega) (by omega) (by omega), s0 1 (by omega) (by omega) (by omega)]
    refine ⟨hD.1, fun t ht => ?_⟩
    rw [s0 (2570 + t) (by omega) (by omega) (by omega)]
    exact hD.2 t ht
  · unfold qCh
    rw [c0 93 (by omega) (by omega) (by omega)]
    refine ⟨hC.1, fun k hk => ?_⟩
    rw [s0 (2590 + k) (by omega) (by omega) (by omega)]
    exact hC.2 k hk
  · intro t d q ht hq
    rw [s0 0 (by omega) (by omega) (by omega), s0 1 (by omega) (by omega) (by omega), s0 (200 + t) (by omega) (by omega) (by omega), s0 (2700 + 1604 * t + 4 * d + q) (by omega) (by omega) (by omega), s0 (2700 + 1604 * t + 4 * d + 2) (by omega) (by omega) (by omega)]
    exact hP t d q ht hq
  · intro k hk
    rw [s0 3 (by omega) (by omega) (by omega), s0 (2016 + k) (by omega) (by omega) (by omega)]
    exact hL k hk
  · intro a haM
    rw [hs2, nIi (by omega)] at haM
    by_cases ea : a = K
    · rw [ea]; exact hn (by omega)
    have ha : a < K := by omega
    obtain ⟨g1, g2, g3, g4, m, hm, g5, g6, g7⟩ := hO a (by rw [h2, nIi (by omega)]; omega)
    have cc : ∀ i, i < 6 → c' (15 + 6 * a + i) = c (15 + 6 * a + i) := fun i hi => hc _ (by omega) (by omega) (by omega)
    unfold qOr1
    rw [show c' (15 + 6 * a) = c (15 + 6 * a) from cc 0 (by omega), cc 1 (by omega), cc 2 (by omega), cc 3 (by omega), cc 4 (by omega), cc 5 (by omega), ho a (240 + a) ha (by omega), ho a (1600 + a) ha (by omega), ho a (252 + a) ha (by omega)]
    refine ⟨g1, g2, g3, g4, m, hm, g5, fun i hi => ?_, fun k hk => ?_⟩
    · rw [ho a (264 + 120 * a + i) ha (by omega)]; exact g6 i hi
    · have hk8 : k < 8 := by omega
      obtain ⟨f1, f2, f3, f4, f5⟩ := g7 k hk
      rw [ho a (1612 + 8 * a + k) ha (by omega), ho a (1700 + 8 * a + k) ha (by omega), ho a (1790 + 8 * a + k) ha (by omega)]
      refine ⟨f1, f2, f3, f4, fun f6 => ?_⟩
      obtain ⟨p0, p1, b, l, k1, k2, k3, k4⟩ := f5 f6
      refine ⟨p0, p1, b, l, k1, k2, ?_, k4⟩
      rw [← k3]
      refine qE_congr (fun q => ?_) p0
      unfold qB
      by_cases hq : q < m
      · rw [if_pos hq, if_pos hq]; exact ho a _ ha (by omega)
      · rw [if_neg hq, if_neg hq]
section YN
variable {n K M N b : Nat} {w w2 : zWd} {day : Int32} {cs : List qCl1}
theorem y_new (h : qInv n w) (hK : K ≤ 10) (hN : N ≤ 120) (hd : 0 ≤ day.toInt ∧ day.toInt ≤ 400) (hr : qCls (fun i => w 232 (1880 + i)) N 8 0 [] = (M, some cs)) (hu : qCk w2 (16 + 6 * K) cs b) (hb : b ≤ 120) (hu0 : w2 (16 + 6 * K) 0 = day) (h1 : w2 232 (240 + K) = day) (h2 : w2 232 (252 + K) = nI N) (h3 : ∀ i, i < N → w2 232 (264 + 120 * K + i) = w 232 (1880 + i)) (hm : qMk w2 K cs) : qOr1 (qVw w2 1) (w2 232) K := by
  have cc : ∀ i, i < 6 → qVw w2 1 (15 + 6 * K + i) = w2 (16 + 6 * K + i) := fun i hi => by rw [qVw_at _ (by omega), show 1 + (15 + 6 * K + i) = 16 + 6 * K + i by omega]
  obtain ⟨l1, l2⟩ := qCls_in hN 8 0 [] cs M (by omega) (by show 0 + 8 ≤ 8; omega) (fun c hc => by simp at hc) hr
  obtain ⟨u1, u2, u3⟩ := hu
  obtain ⟨m1, m2⟩ := hm
  unfold qOr1
  rw [show qVw w2 1 (15 + 6 * K) = w2 (16 + 6 * K) from cc 0 (by omega), cc 1 (by omega), cc 2 (by omega), cc 3 (by omega), cc 4 (by omega), cc 5 (by omega), hu0, h1, u1, m1, nIi (by omega)]
  refine ⟨rfl, rfl, hd, by omega, N, hN, h2, fun i hi => ?_, fun k hk => ?_⟩
  · rw [h3 i hi]
    exact qRg_at (qR1 h) 16 rfl (i := i) (by omega)
  · obtain ⟨c, c1, c2, c3, b0, c4, c5, c6, c7⟩ := u3 k (by omega)
    obtain ⟨c', d1, d2, d3, d4⟩ := m2 k (by omega)
    obtain rfl : c = c' := by rw [c1] at d1; exact Option.some.inj d1
    obtain ⟨⟨i, hi, ei⟩, ⟨m, hm, em⟩, g5⟩ := l2 c (List.mem_of_getElem? c1)
    rw [show 1612 + 8 * K + k = 1612 + (8 * K + k) by omega, show 1700 + 8 * K + k = 1700 + (8 * K + k) by omega, show 1790 + 8 * K + k = 1790 + (8 * K + k) by omega, c2, c3, d2, d3]
    refine ⟨rfl, rfl, by rw [ei, nIi (by omega)]; omega, by rw [em, nIi (by omega)]; omega, fun f6 => ?_⟩
    obtain ⟨g6, p3, g7⟩ := g5 f6
    refine ⟨c.2.2.1, p3, b0, c.2.2.2, d4 f6, g6, ?_, c4, c5, by omega, c7⟩
    rw [← g7]
    refine qE_congr (fun q => ?_) _
    unfold qB
    by_cases hq : q < N
    · rw [if_pos hq, if_pos hq]; exact h3 q hq
    · rw [if_neg hq, if_neg hq]
end YN
section YF
variable {n K : Nat} {w w2 : zWd}
theorem y_fin (h : qInv n w) (hK : K ≤ 10) (k2 : w 232 2 = nI K) (f1 : ∀ c, c ≤ 205 ∨ c = 233 → c ≠ 12 → c ≠ 14 → (c < 16 + 6 * K ∨ 21 + 6 * K < c) → w2 c = w c) (f2 : w2 12 0 = 0) (f3 : w2 14 0 = nI K) (f4 : w2 231 3 = w 231 3)
    (hs : ∀ j, j ≠ 6 → j ≠ 2 → j ≠ 240 + K → j ≠ 252 + K → (j < 264 + 120 * K ∨ 264 + 120 * K + 120 ≤ j) → (∀ k, k ≤ 7 → ¬ qPut K k j) → w2 232 j = w 232 j) (hs6 : w2 232 6 = 0) (hs2 : w2 232 2 = nI K) (hm : qMx (n + 1) w2) : qInv (n + 1) w2 := by
  have ev : qVw w2 103 = qVw w 103 := by
    funext o
    unfold qVw
    by_cases ho : o < 102
    · rw [if_pos ho, if_pos ho, f1 _ (by omega) (by omega) (by omega) (by omega)]
    · rw [if_neg ho, if_neg ho]
  have e0 : w2 232 0 = w 232 0 := hs 0 (by omega) (by omega) (by omega) (by omega) (by omega) (fun k hk => by unfold qPut; omega)
  have e205 : w2 205 = w 205 := f1 205 (by omega) (by omega) (by omega) (by omega)
  have e233 : w2 233 = w 233 := f1 233 (by omega) (by omega) (by omega) (by omega)
  have ec0 : w2 0 = w 0 := f1 0 (by omega) (by omega) (by omega) (by omega)
  unfold qInv
  rw [ev, e0, e205, e233, ec0, f4]
  refine ⟨?_, h.2.1, h.2.2.1, h.2.2.2.1, hm⟩
  refine yRl_text h.1 hK k2 (M := K) rfl (fun o o1 o2 o3 => ?_) (by rw [qVw_at _ (by omega)]; exact f2) (by rw [qVw_at _ (by omega)]; exact f3) (fun j j1 j2 j3 => hs j j1 j2 (by omega) (by omega) (by omega) (fun k hk => by unfold qPut; omega)) hs6 hs2 (fun a j ha hj => hs j (by omega) (by omega) (by omega) (by omega) (by omega) (fun k hk => by unfold qPut; omega)) (fun q => absurd q (by omega))
  unfold qVw
  by_cases ho : o < 102
  · rw [if_pos ho, if_pos ho, f1 _ (by omega) (by omega) (by omega) (by omega)]
  · rw [if_neg ho, if_neg ho]
end YF
/-- the World's cells of c, the model's array of m -/
def yHy (c m : zWd) : zWd := fun a => if a = 232 then m 232 else c a
theorem yHy_c (c m : zWd) {a : Nat} (h : a ≠ 232) : yHy c m a = c a := if_neg h
theorem yHy_m (c m : zWd) : yHy c m 232 = m 232 := if_pos rfl
theorem y_acc {n K : Nat} {w w2 : zWd} (h : qInv n w) (hK : K ≤ 10) (k2 : w 232 2 = nI K) (f1 : ∀ c, 1 ≤ c → c ≤ 102 → c ≠ 12 → c ≠ 14 → (c < 16 + 6 * K ∨ 21 + 6 * K < c) → w2 c = w c) (f3 : w2 14 0 = nI (K + 1))
    (hs : ∀ j, j ≠ 6 → j ≠ 2 → j ≠ 240 + K → j ≠ 252 + K → (j < 264 + 120 * K ∨ 264 + 120 * K + 120 ≤ j) → (∀ k, k ≤ 7 → ¬ qPut K k j) → w2 232 j = w 232 j) (hs2 : w2 232 2 = nI (K + 1)) (hn : qOr1 (qVw w2 1) (w2 232) K) : yW w2 := by
  refine ⟨⟨K + 1, by omega, f3, hs2⟩, fun a haM => ?_, fun t ht => ?_⟩
  · rw [hs2, nIi (by omega)] at haM
    by_cases ea : a = K
    · rw [ea]; exact hn
    have ha : a < K := by omega
    obtain ⟨g1, g2, g3, g4, m, hm, g5, g6, g7⟩ := h.1.2.2.2.2.2.2.2 a (by rw [k2, nIi (by omega)]; omega)
    have cc : ∀ i, i < 6 → qVw w2 1 (15 + 6 * a + i) = qVw w 1 (15 + 6 * a + i) := fun i hi => by
      rw [qVw_at _ (by omega), qVw_at _ (by omega)]
      exact f1 _ (by omega) (by omega) (by omega) (by omega) (by omega)
    have ho : ∀ a j, a < K → (j = 240 + a ∨ j = 252 + a ∨ (264 + 120 * a ≤ j ∧ j < 264 + 120 * a + 120) ∨ j = 1600 + a ∨ (1612 + 8 * a ≤ j ∧ j < 1612 + 8 * a + 8) ∨ (1700 + 8 * a ≤ j ∧ j < 1700 + 8 * a + 8) ∨ (1790 + 8 * a ≤ j ∧ j < 1790 + 8 * a + 8)) → w2 232 j = w 232 j := fun a j ha hj => hs j (by omega) (by omega) (by omega) (by omega) (by omega) (fun k hk => by unfold qPut; omega)
    unfold qOr1
    rw [show qVw w2 1 (15 + 6 * a) = qVw w 1 (15 + 6 * a) from cc 0 (by omega), cc 1 (by omega), cc 2 (by omega), cc 3 (by omega), cc 4 (by omega), cc 5 (by omega), ho a (240 + a) ha (by omega), ho a (1600 + a) ha (by omega), ho a (252 + a) ha (by omega)]
    refine ⟨g1, g2, g3, g4, m, hm, g5, fun i hi => ?_, fun k hk => ?_⟩
    · rw [ho a (264 + 120 * a + i) ha (by omega)]; exact g6 i hi
    · have hk8 : k < 8 := by omega
      obtain ⟨f1, f2, f3, f4, f5⟩ := g7 k hk
      rw [ho a (1612 + 8 * a + k) ha (by omega), ho a (1700 + 8 * a + k) ha (by omega), ho a (1790 + 8 * a + k) ha (by omega)]
      refine ⟨f1, f2, f3, f4, fun f6 => ?_⟩
      obtain ⟨p0, p1, b, l, k1, k2, k3, k4⟩ := f5 f6
      refine ⟨p0, p1, b, l, k1, k2, ?_, k4⟩
      rw [← k3]
      refine qE_congr (fun q => ?_) p0
      unfold qB
      by_cases hq : q < m
      · rw [if_pos hq, if_pos hq]; exact ho a _ ha (by omega)
      · rw [if_neg hq, if_neg hq]
  · have s0 : ∀ j, 1880 ≤ j → w2 232 j = w 232 j := fun j hj => hs j (by omega) (by omega) (by omega) (by omega) (by omega) (fun k hk => by unfold qPut; omega)
    have c0 : ∀ a, 82 ≤ a → a ≤ 93 → w2 a = w a := fun a a1 a2 => f1 a (by omega) (by omega) (by omega) (by omega) (by omega)
    have q1 := qTo h 13 rfl (by decide) (i := t) ht
    have q2 := qTo h 14 rfl (by decide) (i := t) ht
    have q3 := qTo h 15 rfl (by decide) (i := t) ht
    have q4 := qTo h 16 rfl (by decide) (i := t) ht
    have q5 := qTo h 17 rfl (by decide) (i := t) ht
    simp only [Nat.zero_add, Nat.reduceAdd] at q1 q2 q3 q4 q5
    rw [s0 _ (by omega), s0 _ (by omega), s0 _ (by omega), s0 _ (by omega), s0 _ (by omega), c0 83 (by omega) (by omega), c0 84 (by omega) (by omega), c0 85 (by omega) (by omega), c0 86 (by omega) (by omega), c0 87 (by omega) (by omega)]
    exact ⟨q1, q2, q3, q4, q5⟩
/-- the model reads the order tried -/
theorem y_try {n K N D b M : Nat} {w uc : zWd} {cs : List qCl1} (h : qInv n w) (hK : K ≤ 10) (k2 : w 232 2 = nI K) (hN : N ≤ 120) (t2 : w 232 6 = nI N) (hD : D ≤ 400) (hc : ∀ c, 1 ≤ c → c ≤ 102 → c ≠ 12 → c ≠ 14 → (c < 16 + 6 * K ∨ 21 + 6 * K < c) → uc c = w c) (hc14 : uc 14 0 = nI (K + 1))
    (hr : qCls (fun i => w 232 (1880 + i)) N 8 0 [] = (M, some cs)) (hck : qCk uc (16 + 6 * K) cs b) (hb : b ≤ 120) (hu0 : uc (16 + 6 * K) 0 = nI D) (v : zWd) (hv : v 232 = w 232) :
    ∃ w', mX12_readsOrder 231 (nI K) (nI D) v = some (1, w') ∧ (∀ c, c ≠ 231 → c ≠ 232 → w' c = v c) ∧ (∀ j, j < 10 ∨ 14 < j → w' 231 j = v 231 j) ∧ (∀ j, j ≠ 6 → j ≠ 2 → j ≠ 240 + K → j ≠ 252 + K → (j < 264 + 120 * K ∨ 264 + 120 * K + 120 ≤ j) → (∀ k, k ≤ 7 → ¬ qPut K k j) → w' 232 j = w 232 j) ∧ w' 232 6 = 0 ∧ w' 232 2 = nI K ∧ yW (yHy uc (zup w' 232 2 (nI (K + 1)))) := by
  obtain ⟨x, w', g1, g2⟩ := h_order (w := v) (nI D) (show K ≤ 10 by omega) hN (by rw [hv]; exact t2)
  unfold qHo at g2
  rw [hv, hr] at g2
  obtain ⟨g3, g4, g5, g6, g7, g8, g9, g10, g11⟩ := g2
  subst g7
  have z : ∀ j, j ≠ 2 → zup w' 232 2 (nI (K + 1)) 232 j = w' 232 j := fun j hj => zu2 _ _ hj
  have w2K : w' 232 2 = nI K := by rw [g5 2 (by omega) (by omega) (by omega) (by omega) (fun k hk => by unfold qPut; omega)]; exact k2
  have hs : ∀ j, j ≠ 6 → j ≠ 2 → j ≠ 240 + K → j ≠ 252 + K → (j < 264 + 120 * K ∨ 264 + 120 * K + 120 ≤ j) → (∀ k, k ≤ 7 → ¬ qPut K k j) → w' 232 j = w 232 j := fun j j1 j2 j3 j4 j5 j6 => g5 j j1 j3 j4 (by omega) j6
  refine ⟨w', g1, g3, g4, hs, g6, w2K, ?_⟩
  have zo : ∀ c, c ≠ 232 → yHy uc (zup w' 232 2 (nI (K + 1))) c = uc c := fun c c1 => yHy_c _ _ c1
  refine y_acc h hK k2 (fun c c1 c2 c3 c4 c5 => by rw [zo c (by omega)]; exact hc c c1 c2 c3 c4 c5) (by rw [zo 14 (by decide)]; exact hc14) (fun j j1 j2 j3 j4 j5 j6 => by rw [yHy_m, z j j2]; exact hs j j1 j2 j3 j4 j5 j6) (by rw [yHy_m, zu3]) ?_
  have hck2 : qCk (yHy uc (zup w' 232 2 (nI (K + 1)))) (16 + 6 * K) cs b := by
    obtain ⟨q1, q2, q3⟩ := hck
    unfold qCk
    rw [zo (16 + 6 * K) (by omega), zo (16 + 6 * K + 1) (by omega), zo (16 + 6 * K + 2) (by omega), zo (16 + 6 * K + 3) (by omega), zo (16 + 6 * K + 4) (by omega), zo (16 + 6 * K + 5) (by omega)]
    exact ⟨q1, q2, q3⟩
  have hmk : qMk (yHy uc (zup w' 232 2 (nI (K + 1)))) K cs := by
    obtain ⟨q1, q2⟩ := g11
    refine ⟨by rw [yHy_m, z _ (by omega)]; exact q1, fun i hi => ?_⟩
    rw [yHy_m, z _ (by omega), z _ (by omega), z _ (by omega)]
    exact q2 i hi
  exact y_new (day := nI D) h hK hN (by rw [nIi (by omega)]; omega) hr hck2 hb (by rw [zo _ (by omega)]; exact hu0) (by rw [yHy_m, z _ (by omega)]; exact g8) (by rw [yHy_m, z _ (by omega)]; exact g9) (fun i hi => by rw [yHy_m, z _ (by omega)]; exact g10 i hi) hmk
