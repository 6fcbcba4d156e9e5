/-! a text on both sides: what it leaves -/
def qGc (f : Nat → Int32) (n : Nat) (c : qCl1) : Prop := (∃ i, i < 6 ∧ c.1 = nI i) ∧ (∃ m, m ≤ 999 ∧ c.2.1 = nI m) ∧ (c.1 = 0 → c.2.2.1 ≤ 120 ∧ ∃ p3, qE f n c.2.2.1 = (p3, some c.2.2.2))
theorem qCls_in {f : Nat → Int32} {n : Nat} (hn : n ≤ 120) : ∀ k p acc cs p', p ≤ n → acc.length + k ≤ 8 → (∀ c ∈ acc, qGc f n c) → qCls f n k p acc = (p', some cs) → cs.length ≤ 8 ∧ ∀ c ∈ cs, qGc f n c := by
  intro k
  induction k with
  | zero => intro p acc cs p' _ _ _ h; unfold qCls at h; simp at h
  | succ k ih =>
    intro p acc cs p' hp hl ha h
    unfold qCls at h
    have g := qCl_in (f := f) hn hp
    match e : qCl f n p with
    | (p1, none) => rw [e] at h; simp at h
    | (p1, some c) =>
      rw [e] at h g
      obtain ⟨g1, g2⟩ := g
      obtain ⟨_, g3, g4, _, g5⟩ := g2 c rfl
      have hc : ∀ x ∈ acc ++ [c], qGc f n x := fun x hx => by
        rcases List.mem_append.mp hx with hx | hx
        · exact ha x hx
        · rw [List.mem_singleton] at hx; rw [hx]; exact ⟨g3, g4, g5⟩
      have hl2 : (acc ++ [c]).length = acc.length + 1 := by rw [List.length_append]; rfl
      simp only at h
      by_cases c1 : ¬ k = 0 ∧ qB f n p1 = 59
      · rw [if_pos c1] at h
        have := qB_in c1.2 (by decide)
        exact ih (p1 + 1) (acc ++ [c]) cs p' (by omega) (by omega) hc h
      · rw [if_neg c1] at h
        by_cases c2 : p1 = n
        · rw [if_pos c2] at h
          simp only [Prod.mk.injEq, Option.some.injEq] at h
          rw [← h.2]
          exact ⟨by omega, hc⟩
        · rw [if_neg c2] at h; simp at h
theorem qCls_congr {f g : Nat → Int32} {n : Nat} (h : ∀ p, qB f n p = qB g n p) : ∀ k p acc, qCls f n k p acc = qCls g n k p acc := by
  intro k
  induction k with
  | zero => intro p acc; rfl
  | succ k ih => intro p acc; unfold qCls; simp only [h, qCl_congr h, ih]
theorem qBk_t : ∀ q ∈ qBk, q = (11, 0, 6, 1) ∨ q = (13, 0, 2, 1) ∨ ((q.1 < 15 ∨ 80 < q.1) ∧ q.1 ≠ 11 ∧ q.1 ≠ 13 ∧ (q.2.2.1 + q.2.2.2 ≤ 240 ∨ 1880 ≤ q.2.2.1) ∧ (q.2.2.1 + q.2.2.2 ≤ 2 ∨ 7 ≤ q.2.2.1 ∨ (3 ≤ q.2.2.1 ∧ q.2.2.1 + q.2.2.2 ≤ 6))) := by decide +kernel
theorem qRb_t : ∀ q ∈ qRb, q = (6, 1, 0, 120) ∨ q = (2, 1, 0, 10) ∨ ((q.1 + q.2.1 ≤ 240 ∨ 1880 ≤ q.1) ∧ (q.1 + q.2.1 ≤ 2 ∨ 7 ≤ q.1 ∨ (3 ≤ q.1 ∧ q.1 + q.2.1 ≤ 6))) := by decide +kernel
/-- the other orders stay; nothing else but THE TAPE and how many ORDERS -/
theorem qRl_text {c c' : Nat → Nat → Int32} {s s' p : Nat → Int32} {K M : Nat} (h : qRl c s p) (hK : K ≤ 9) (h2 : s 2 = nI K) (hM : M = K ∨ M = K + 1)
    (hc : ∀ o, (o < 15 + 6 * K ∨ 20 + 6 * K < o) → o ≠ 11 → o ≠ 13 → c' o = c o) (hc11 : c' 11 0 = 0) (hc13 : c' 13 0 = nI M)
    (hs : ∀ j, j ≠ 6 → j ≠ 2 → (j < 240 ∨ 1880 ≤ j) → s' j = s j) (hs6 : s' 6 = 0) (hs2 : s' 2 = nI M)
    (ho : ∀ a j, a < K → (j = 240 + a ∨ j = 252 + a ∨ (264 + 120 * a ≤ j ∧ j < 264 + 120 * a + 120) ∨ j = 1600 + a ∨ (1612 + 8 * a ≤ j ∧ j < 1612 + 8 * a + 8) ∨ (1700 + 8 * a ≤ j ∧ j < 1700 + 8 * a + 8) ∨ (1790 + 8 * a ≤ j ∧ j < 1790 + 8 * a + 8)) → s' j = s j)
    (hn : M = K + 1 → qOr1 c' s' K) : qRl c' s' p := by
  obtain ⟨hT, hG, hTp, hD, hC, hP, hL, hO⟩ := h
  have s0 : ∀ j, j ≠ 6 → j ≠ 2 → (j < 240 ∨ 1880 ≤ j) → s' j = s j := hs
  have c0 : ∀ o, (o < 15 ∨ 80 < o) → o ≠ 11 → o ≠ 13 → c' o = c o := fun o o1 o2 o3 => hc o (by omega) o2 o3
  refine ⟨?_, ?_, ?_, ?_, ?_, ?_, ?_, ?_⟩
  · intro q hq i hi
    rcases qBk_t q hq with rfl | rfl | ⟨k1, k2, k3, k4, k5⟩
    · obtain rfl : i = 0 := by simp only at hi; omega
      show c' 11 0 = s' 6
      rw [hc11, hs6]
    · obtain rfl : i = 0 := by simp only at hi; omega
      show c' 13 0 = s' 2
      rw [hc13, hs2]
    · rw [c0 _ k1 k2 k3, s0 _ (by omega) (by omega) (by omega)]
      exact hT q hq i hi
  · intro q hq i hi
    rcases qRb_t q hq with rfl | rfl | ⟨k4, k5⟩
    · obtain rfl : i = 0 := by simp only at hi; omega
      show 0 ≤ (s' 6).toInt ∧ (s' 6).toInt ≤ 120
      rw [hs6]; decide
    · obtain rfl : i = 0 := by simp only at hi; omega
      show 0 ≤ (s' 2).toInt ∧ (s' 2).toInt ≤ 10
      rw [hs2, nIi (by omega)]; omega
    · rw [s0 _ (by omega) (by omega) (by omega)]
      exact hG q hq i hi
  · intro t ht
    rw [s0 1 (by omega) (by omega) (by omega), s0 (140 + t) (by omega) (by omega) (by omega), s0 (152 + t) (by omega) (by omega) (by omega), s0 (164 + t) (by omega) (by omega) (by omega), s0 (188 + t) (by omega) (by omega) (by omega), s0 (212 + t) (by omega) (by omega) (by omega), s0 (224 + t) (by omega) (by omega) (by omega), c0 3 (by omega) (by omega) (by omega), c0 4 (by omega) (by omega) (by omega), c0 5 (by omega) (by omega) (by omega), c0 1 (by omega) (by omega) (by omega)]
    exact hTp t ht
  · unfold qDr
    rw [c0 93 (by omega) (by omega) (by omega), c0 98 (by omega) (by omega) (by omega), s0 1 (by omega) (by omega) (by omega)]
    refine ⟨hD.1, fun t ht => ?_⟩
    rw [s0 (2570 + t) (by omega) (by omega) (by omega)]
    exact hD.2 t ht
  · unfold qCh
    rw [c0 93 (by omega) (by omega) (by omega)]
    refine ⟨hC.1, fun k hk => ?_⟩
    rw [s0 (2590 + k) (by omega) (by omega) (by omega)]
    exact hC.2 k hk
  · intro t d q ht hq
    rw [s0 0 (by omega) (by omega) (by omega), s0 1 (by omega) (by omega) (by omega), s0 (200 + t) (by omega) (by omega) (by omega), s0 (2700 + 1604 * t + 4 * d + q) (by omega) (by omega) (by omega), s0 (2700 + 1604 * t + 4 * d + 2) (by omega) (by omega) (by omega)]
    exact hP t d q ht hq
  · intro k hk
    rw [s0 3 (by omega) (by omega) (by omega), s0 (2016 + k) (by omega) (by omega) (by omega)]
    exact hL k hk
  · intro a haM
    rw [hs2, nIi (by omega)] at haM
    by_cases ea : a = K
    · rw [ea]; exact hn (by omega)
    have ha : a < K := by omega
    obtain ⟨g1, g2, g3, g4, m, hm, g5, g6, g7⟩ := hO a (by rw [h2, nIi (by omega)]; omega)
    have cc : ∀ i, i < 6 → c' (15 + 6 * a + i) = c (15 + 6 * a + i) := fun i hi => hc _ (by omega) (by omega) (by omega)
    unfold qOr1
    rw [show c' (15 + 6 * a) = c (15 + 6 * a) from cc 0 (by omega), cc 1 (by omega), cc 2 (by omega), cc 3 (by omega), cc 4 (by omega), cc 5 (by omega), ho a (240 + a) ha (by omega), ho a (1600 + a) ha (by omega), ho a (252 + a) ha (by omega)]
    refine ⟨g1, g2, g3, g4, m, hm, g5, fun i hi => ?_, fun k hk => ?_⟩
    · rw [ho a (264 + 120 * a + i) ha (by omega)]; exact g6 i hi
    · have hk8 : k < 8 := by omega
      obtain ⟨f1, f2, f3, f4, f5⟩ := g7 k hk
      rw [ho a (1612 + 8 * a + k) ha (by omega), ho a (1700 + 8 * a + k) ha (by omega), ho a (1790 + 8 * a + k) ha (by omega)]
      refine ⟨f1, f2, f3, f4, fun f6 => ?_⟩
      obtain ⟨p0, p1, b, l, k1, k2, k3, k4⟩ := f5 f6
      refine ⟨p0, p1, b, l, k1, k2, ?_, k4⟩
      rw [← k3]
      refine qE_congr (fun q => ?_) p0
      unfold qB
      by_cases hq : q < m
      · rw [if_pos hq, if_pos hq]; exact ho a _ ha (by omega)
      · rw [if_neg hq, if_neg hq]
