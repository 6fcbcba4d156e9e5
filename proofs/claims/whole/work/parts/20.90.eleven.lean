/-! the ruling and the row, of eleven ORDERS too -/
def yW (w : zWd) : Prop := (∃ S : Nat, S ≤ 11 ∧ w 14 0 = nI S ∧ w 232 2 = nI S) ∧ qOr (qVw w 1) (w 232) ∧ ∀ t, t < 8 → w 83 t = w 232 (2000 + t) ∧ w 84 t = w 232 (2008 + t) ∧ w 85 t = w 232 (2016 + t) ∧ w 86 t = w 232 (2024 + t) ∧ w 87 t = w 232 (2032 + t)
theorem yTw_eq {w : zWd} (h : yW w) {t : Nat} (ht : t < 8) : qTw w t = qTv (w 232 (2000 + t)) (w 232 (2008 + t)) (w 232 (2016 + t)) (w 232 (2024 + t)) (w 232 (2032 + t)) := by
  obtain ⟨q1, q2, q3, q4, q5⟩ := h.2.2 t ht
  unfold qTw
  rw [q1, q2, q3, q4, q5]
theorem y_ord {w : zWd} (h : yW w) {a S : Nat} (hS : S ≤ 11) (e : w 232 2 = nI S) (ha : a < S) : ∃ F K m : Nat, F ≤ 400 ∧ K ≤ 8 ∧ w (16 + 6 * a) 0 = nI F ∧ w (16 + 6 * a) 1 = nI K ∧ w 232 (240 + a) = nI F ∧ w 232 (1600 + a) = nI K ∧ qTx w a m
    ∧ ∀ k, k < K → (∃ N V : Nat, N ≤ 5 ∧ V ≤ 999 ∧ w (17 + 6 * a) k = nI N ∧ w 232 (1612 + 8 * a + k) = nI N ∧ w (18 + 6 * a) k = nI V ∧ w 232 (1700 + 8 * a + k) = nI V) ∧ (w 232 (1612 + 8 * a + k) = 0 → ∃ p p' b : Nat, w 232 (1790 + 8 * a + k) = nI p ∧ p ≤ m ∧ qE (qFx w a) m p = (p', some (qLs w a k)) ∧ w (19 + 6 * a) k = nI b ∧ w (20 + 6 * a) k = nI (b + (qLs w a k).length) ∧ b + (qLs w a k).length ≤ 120 ∧ ∀ i, i < (qLs w a k).length → w (21 + 6 * a) (b + i) = (qLs w a k).getD i 0) := by
  obtain ⟨g1, g2, g3, g4, m, hm, g5, g6, g7⟩ := h.2.1 a (by rw [e, nIi (by omega)]; omega)
  have v : ∀ j, j ≤ 5 → qVw w 1 (15 + 6 * a + j) = w (16 + 6 * a + j) := fun j hj => by rw [qVw_at w (by omega)]; congr 1; omega
  have v0 := v 0 (by omega)
  have v1 := v 1 (by omega)
  have v2 := v 2 (by omega)
  have v3 := v 3 (by omega)
  have v4 := v 4 (by omega)
  have v5 := v 5 (by omega)
  rw [show 16 + 6 * a + 1 = 17 + 6 * a by omega] at v1
  rw [show 16 + 6 * a + 2 = 18 + 6 * a by omega] at v2
  rw [show 16 + 6 * a + 3 = 19 + 6 * a by omega] at v3
  rw [show 16 + 6 * a + 4 = 20 + 6 * a by omega] at v4
  rw [show 16 + 6 * a + 5 = 21 + 6 * a by omega] at v5
  simp only [Nat.add_zero] at v0
  simp only [v0, v1, v2, v3, v4, v5] at g1 g2 g7
  obtain ⟨F, f1, f2, f3, _⟩ := qNat g3 (Int.le_refl 0)
  obtain ⟨K, k1, k2, k3, _⟩ := qNat g4 (Int.le_refl 0)
  refine ⟨F, K, m, by omega, by omega, by rw [g1]; exact f1, by rw [g2]; exact k1, f1, k1, ⟨by omega, hm, g5⟩, fun k hk => ?_⟩
  obtain ⟨j1, j2, j3, j4, j5⟩ := g7 k (by omega)
  obtain ⟨N, n1, n2, n3, _⟩ := qNat j3 (Int.le_refl 0)
  obtain ⟨V, x1, x2, x3, _⟩ := qNat j4 (Int.le_refl 0)
  refine ⟨⟨N, V, by omega, by omega, by rw [j1]; exact n1, n1, by rw [j2]; exact x1, x1⟩, fun hz => ?_⟩
  obtain ⟨p, p', b, l, y1, y2, y3, y4, y5, y6, y7⟩ := j5 hz
  have el := qLs_of y4 y5 y6 y7
  have hp := (qGd_E y3)
  refine ⟨p, p', b, y1, by omega, ?_, y4, by rw [el]; exact y5, by rw [el]; exact y6, by rw [el]; exact y7⟩
  rw [el]; exact y3
def yBo (w : zWd) (C Pr : Nat → Nat → Prop) (v : Int32) : Prop := (v = -1 ∧ ∀ a k, Pr a k → ¬ C a k) ∨ ∃ a k, a < 11 ∧ k < 8 ∧ qBs w C Pr a k ∧ v = nI (8 * a + k)
theorem yBo.more {w : zWd} {C Pr Pr2 : Nat → Nat → Prop} {v : Int32} (h : yBo w C Pr v) (h1 : ∀ a k, Pr a k → Pr2 a k) (h2 : ∀ a k, Pr2 a k → C a k → Pr a k) : yBo w C Pr2 v := by
  rcases h with ⟨g1, g2⟩ | ⟨a, k, g1, g2, ⟨g3, g4, g5⟩, g6⟩
  · exact Or.inl ⟨g1, fun a k q c => g2 a k (h2 a k q c) c⟩
  · exact Or.inr ⟨a, k, g1, g2, ⟨h1 a k g3, g4, fun a' k' q c => g5 a' k' (h2 a' k' q c) c⟩, g6⟩
theorem y_ruling12 {w : zWd} (h : yW w) (N d : Int32) (t : Nat) (T : Int32) (hN : N = 0 → t < 8 ∧ T = nI t) {u : zWd} (hu : u 232 = w 232) : ∃ v w', mX12_ruling 231 N T d u = some (v, w') ∧ qS1 u w' ∧ yBo w (qCd w N t d) (fun _ _ => True) v := by
  obtain ⟨S, hS, o1, o2⟩ := h.1
  have e2 : (w 232 2).toInt = S := by rw [o2, nIi (by omega)]
  unfold mX12_ruling mX12_ruling_6
  refine zlp_R (R := fun X => ∃ v w', X = some (v, w') ∧ qS1 u w' ∧ yBo w (qCd w N t d) (fun _ _ => True) v) (P := fun i q => ∃ v w', q = (v, nI i, w') ∧ qS1 u w' ∧ yBo w (qCd w N t d) (qPr i 0) v) (n := S) (by unfold zFU; omega) ?_ ⟨-1, u, rfl, qS1.rf u, Or.inl ⟨rfl, fun a k q => by unfold qPr at q; omega⟩⟩
  rintro a ha q ⟨v, u1, rfl, hu1, hb⟩ k6 hk6
  have e232 := (hu1.1 232 (by decide)).trans hu
  simp only [mX12_ruling_6b]
  by_cases haS : a = S
  · refine ⟨v, u1, ?_, hu1, hb.more (fun _ _ _ => trivial) (fun a' k' _ c => ?_)⟩
    · simp (disch := (first | omega | (simp (disch := omega) only [zu1, zu2, zu3, nIi, e232, o2]; omega))) only [if_true, if_false, zE10, zE00, zOkN, Nat.reduceAdd, Nat.reduceMul, zcl_s, zif01, zbn_e, nIi, nI_clamp, nI_add, nI_1, pk_mul, zgi, zlt, zle, Int32.zero_add, Int32.add_zero, C0, C1, G0, G1, Nat.zero_add, Nat.add_zero, l2, l3, l4, l5, l6, l7, l8, l10, l11, l12, l20, l30, l48, l50, l60, l100, l120, l140, l152, l164, l176, l188, l200, l212, l224, l1604, l1880, l2000, l2008, l2016, l2024, l2032, l2040, l2048, l2210, l2240, l2270, l2300, l2330, l2390, l2450, l2510, l2570, l2590, l2620, l2650, l2660, l2700, T0, T1, Tm1, Tm99, Tm999, p_within, p_in, p_isCell, p_isOwner, p_isDay11, p_isDay12, p_isTap11, p_isTaker11, if_pos, if_neg, p_isTap12, p_isTaker12, p_isGone, zu1, zu2, zu3, nIe, Nat.reduceSub, e232, o2]
    · have := c.1; rw [e2] at this; exact Or.inl (by omega)
  obtain ⟨F, K, m, hF, hK, f1, f2, f3, f4, htx, hcl⟩ := y_ord h hS o2 (show a < S by omega)
  have f3i : (w 232 (240 + a)).toInt = F := by rw [f3, nIi (by omega)]
  have f4i : (w 232 (1600 + a)).toInt = K := by rw [f4, nIi (by omega)]
  have inner : ∃ q', (∃ v w', q' = (v, nI (a + 1), w') ∧ qS1 u w' ∧ yBo w (qCd w N t d) (qPr (a + 1) 0) v) ∧ mX12_ruling_20 k6 231 N T d (nI a) v 0 u1 = k6 q' := by
    unfold mX12_ruling_20
    refine zlp_ex2 (R := fun X => ∃ q', (∃ v w', q' = (v, nI (a + 1), w') ∧ qS1 u w' ∧ yBo w (qCd w N t d) (qPr (a + 1) 0) v) ∧ X = k6 q') (P := fun i q => ∃ v w', q = (v, nI i, w') ∧ qS1 u w' ∧ yBo w (qCd w N t d) (qPr a i) v) (n := K) (by unfold zFU; omega) ?_ ⟨v, u1, rfl, hu1, hb⟩
    rintro k hk q ⟨v1, u2, rfl, hu2, hb2⟩
    have e232b := (hu2.1 232 (by decide)).trans hu
    simp only [mX12_ruling_20b, mX12_ruling_159]
    by_cases hkK : k = K
    · refine Or.inl ⟨_, ⟨(v1, nI (a + 1), u2), ⟨v1, u2, rfl, hu2, hb2.more (fun a' k' q => Or.inl (by unfold qPr at q; omega)) (fun a' k' q c => ?_)⟩, rfl⟩, fun k20 => ?_⟩
      · unfold qPr at q ⊢
        have c2 := c.2.1
        by_cases ea : a' = a
        · rw [ea, f4i] at c2; exact Or.inr ⟨ea, by omega⟩
        · exact Or.inl (by omega)
      · simp (disch := (first | omega | (simp (disch := omega) only [zu1, zu2, zu3, nIi, e232b, show (1600 : Int32) = nI 1600 from rfl, f4]; omega))) only [if_true, if_false, zE10, zE00, zOkN, Nat.reduceAdd, Nat.reduceMul, zcl_s, zif01, zbn_e, nIi, nI_clamp, nI_add, nI_1, pk_mul, zgi, zlt, zle, Int32.zero_add, Int32.add_zero, C0, C1, G0, G1, Nat.zero_add, Nat.add_zero, l2, l3, l4, l5, l6, l7, l8, l10, l11, l12, l20, l30, l48, l50, l60, l100, l120, l140, l152, l164, l176, l188, l200, l212, l224, l1604, l1880, l2000, l2008, l2016, l2024, l2032, l2040, l2048, l2210, l2240, l2270, l2300, l2330, l2390, l2450, l2510, l2570, l2590, l2620, l2650, l2660, l2700, T0, T1, Tm1, Tm99, Tm999, p_within, p_in, p_isCell, p_isOwner, p_isDay11, p_isDay12, p_isTap11, p_isTaker11, if_pos, if_neg, p_isTap12, p_isTaker12, p_isGone, zu1, zu2, zu3, nIe, Nat.reduceSub, e232b, show (1600 : Int32) = nI 1600 from rfl, f4]
    by_cases hd : d.toInt < F
    · refine Or.inl ⟨_, ⟨(v1, nI (a + 1), u2), ⟨v1, u2, rfl, hu2, hb2.more (fun a' k' q => Or.inl (by unfold qPr at q; omega)) (fun a' k' q c => ?_)⟩, rfl⟩, fun k20 => ?_⟩
      · unfold qPr at q ⊢
        have c3 := c.2.2.1
        by_cases ea : a' = a
        · rw [ea, f3i] at c3; omega
        · exact Or.inl (by omega)
      · simp (disch := (first | omega | (simp (disch := omega) only [zu1, zu2, zu3, nIi, e232b, show (1600 : Int32) = nI 1600 from rfl, show (240 : Int32) = nI 240 from rfl, f4, f3]; omega))) only [if_true, if_false, zE10, zE00, zOkN, Nat.reduceAdd, Nat.reduceMul, zcl_s, zif01, zbn_e, nIi, nI_clamp, nI_add, nI_1, pk_mul, zgi, zlt, zle, Int32.zero_add, Int32.add_zero, C0, C1, G0, G1, Nat.zero_add, Nat.add_zero, l2, l3, l4, l5, l6, l7, l8, l10, l11, l12, l20, l30, l48, l50, l60, l100, l120, l140, l152, l164, l176, l188, l200, l212, l224, l1604, l1880, l2000, l2008, l2016, l2024, l2032, l2040, l2048, l2210, l2240, l2270, l2300, l2330, l2390, l2450, l2510, l2570, l2590, l2620, l2650, l2660, l2700, T0, T1, Tm1, Tm99, Tm999, p_within, p_in, p_isCell, p_isOwner, p_isDay11, p_isDay12, p_isTap11, p_isTaker11, if_pos, if_neg, p_isTap12, p_isTaker12, p_isGone, zu1, zu2, zu3, nIe, Nat.reduceSub, e232b, show (1600 : Int32) = nI 1600 from rfl, show (240 : Int32) = nI 240 from rfl, f4, f3]
    have hk8 : k < K := by omega
    obtain ⟨⟨Nw, V, n1, _, n2, n3, _⟩, hz⟩ := hcl k hk8
    refine Or.inr ⟨hk8, ?_⟩
    -- what is taken, and what isn't
    have keep : ∀ u3, qS1 u u3 → (qCd w N t d a k → ∃ a0 k0, a0 < 11 ∧ k0 < 8 ∧ qBs w (qCd w N t d) (qPr a k) a0 k0 ∧ v1 = nI (8 * a0 + k0) ∧ (F : Int) < (w 232 (240 + a0)).toInt) → ∃ v w', (v1, nI (k + 1), u3) = (v, nI (k + 1), w') ∧ qS1 u w' ∧ yBo w (qCd w N t d) (qPr a (k + 1)) v := by
      intro u3 hu3 hc
      refine ⟨v1, u3, rfl, hu3, ?_⟩
      by_cases c : qCd w N t d a k
      · obtain ⟨a0, k0, a1, a2, ⟨b1, b2, b3⟩, a4, a5⟩ := hc c
        refine Or.inr ⟨a0, k0, a1, a2, ⟨by unfold qPr at b1 ⊢; omega, b2, fun a' k' q c' => ?_⟩, a4⟩
        by_cases e : a' = a ∧ k' = k
        · rw [e.1, f3i]; exact Or.inl a5
        · exact b3 a' k' (by unfold qPr at q ⊢; omega) c'
      · refine hb2.more (fun a' k' q => by unfold qPr at q ⊢; omega) (fun a' k' q c' => ?_)
        by_cases e : a' = a ∧ k' = k
        · rw [e.1, e.2] at c'; exact absurd c' c
        · unfold qPr at q ⊢; omega
    have take : ∀ u3, qS1 u u3 → qCd w N t d a k → (∀ a0 k0, qBs w (qCd w N t d) (qPr a k) a0 k0 → (w 232 (240 + a0)).toInt ≤ F) → ∃ v w', (nI (8 * a + k), nI (k + 1), u3) = (v, nI (k + 1), w') ∧ qS1 u w' ∧ yBo w (qCd w N t d) (qPr a (k + 1)) v := by
      intro u3 hu3 c hc
      refine ⟨_, u3, rfl, hu3, Or.inr ⟨a, k, by omega, by omega, ⟨Or.inr ⟨rfl, by omega⟩, c, fun a' k' q c' => ?_⟩, rfl⟩⟩
      rw [f3i]
      have hle : a' < a ∨ (a' = a ∧ k' ≤ k) := by unfold qPr at q; omega
      by_cases e : a' = a ∧ k' = k
      · rw [e.1, f3i]; exact Or.inr ⟨rfl, Or.inr ⟨rfl, by omega⟩⟩
      rcases hb2 with ⟨_, g2⟩ | ⟨a0, k0, _, _, b, _⟩
      · exact absurd c' (g2 a' k' (by unfold qPr at q ⊢; omega))
      · have b0 := hc a0 k0 b
        rcases b.2.2 a' k' (by unfold qPr at q ⊢; omega) c' with b4 | ⟨b4, _⟩
        · exact Or.inl (by omega)
        · by_cases e5 : (w 232 (240 + a0)).toInt < F
          · exact Or.inl (by omega)
          · exact Or.inr ⟨by omega, hle⟩
    have nope : ¬ qCd w N t d a k → (∃ q', (∃ v w', q' = (v, nI (k + 1), w') ∧ qS1 u w' ∧ yBo w (qCd w N t d) (qPr a (k + 1)) v) ∧ q' = (v1, nI (k + 1), u2)) := fun c => ⟨_, keep u2 hu2 (fun c' => absurd c' c), rfl⟩
    have ew : ∀ x, zgd (zin (nI 1612 + nI 8 * nI a + nI k) 21948) x = x := fun x : Option (Int32 × zWd) => by rw [pk_mul, nI_add, nI_add]; exact zgi (by omega) (by decide) x
    by_cases hw : w 232 (1612 + 8 * a + k) = N
    rotate_left
    · obtain ⟨q', g1, g2⟩ := nope (fun c => hw c.2.2.2.1)
      refine ⟨q', g1, fun k20 => ?_⟩
      rw [g2]
      have hw2 : ¬ nI Nw = N := by rw [← n3]; exact hw
      simp only [mX12_ruling_110, mX12_ruling_111, mX12_ruling_149, mX12_ruling_151]
      simp (disch := (first | omega | (simp (disch := omega) only [zu1, zu2, zu3, nIi, e232b, show (1600 : Int32) = nI 1600 from rfl, show (240 : Int32) = nI 240 from rfl, show (1612 : Int32) = nI 1612 from rfl, f4, f3, n3, hw2]; omega))) only [if_true, if_false, zE10, zE00, zOkN, Nat.reduceAdd, Nat.reduceMul, zcl_s, zif01, zbn_e, nIi, nI_clamp, nI_add, nI_1, pk_mul, zgi, zlt, zle, Int32.zero_add, Int32.add_zero, C0, C1, G0, G1, Nat.zero_add, Nat.add_zero, l2, l3, l4, l5, l6, l7, l8, l10, l11, l12, l20, l30, l48, l50, l60, l100, l120, l140, l152, l164, l176, l188, l200, l212, l224, l1604, l1880, l2000, l2008, l2016, l2024, l2032, l2040, l2048, l2210, l2240, l2270, l2300, l2330, l2390, l2450, l2510, l2570, l2590, l2620, l2650, l2660, l2700, T0, T1, Tm1, Tm99, Tm999, p_within, p_in, p_isCell, p_isOwner, p_isDay11, p_isDay12, p_isTap11, p_isTaker11, if_pos, if_neg, p_isTap12, p_isTaker12, p_isGone, zu1, zu2, zu3, nIe, Nat.reduceSub, e232b, show (1600 : Int32) = nI 1600 from rfl, show (240 : Int32) = nI 240 from rfl, show (1612 : Int32) = nI 1612 from rfl, f4, f3, n3, hw2]
    have hw2 : (nI Nw = N) = True := by rw [← n3]; exact eq_true hw
    -- is it taken before its truth is asked
    have pre : ∃ s0 : Int32, (s0 = 0 ∨ s0 = 1) ∧ (s0 = 0 → ∃ a0 k0, a0 < 11 ∧ k0 < 8 ∧ qBs w (qCd w N t d) (qPr a k) a0 k0 ∧ v1 = nI (8 * a0 + k0) ∧ (F : Int) < (w 232 (240 + a0)).toInt) ∧ (s0 = 1 → ∀ a0 k0, qBs w (qCd w N t d) (qPr a k) a0 k0 → (w 232 (240 + a0)).toInt ≤ F) ∧ ∀ k20, mX12_ruling_20b k6 231 N T d (nI a) k20 v1 (nI k) u2 = mX12_ruling_111 k6 k20 231 N T d v1 (nI a) (nI k) s0 u2 := by
      rcases hb2 with ⟨g1, g2⟩ | ⟨a0, k0, a1, a2, b, a4⟩
      · refine ⟨1, Or.inr rfl, fun q => absurd q (by decide), fun _ a0 k0 b => absurd b.2.1 (g2 a0 k0 b.1), fun k20 => ?_⟩
        unfold mX12_ruling_20b mX12_ruling_106
        subst g1
        simp (disch := (first | omega | (simp (disch := omega) only [zu1, zu2, zu3, nIi, e232b, show (1600 : Int32) = nI 1600 from rfl, show (240 : Int32) = nI 240 from rfl, show (1612 : Int32) = nI 1612 from rfl, f4, f3, n3, hw2]; omega))) only [if_true, if_false, zE10, zE00, zOkN, Nat.reduceAdd, Nat.reduceMul, zcl_s, zif01, zbn_e, nIi, nI_clamp, nI_add, nI_1, pk_mul, zgi, zlt, zle, Int32.zero_add, Int32.add_zero, C0, C1, G0, G1, Nat.zero_add, Nat.add_zero, l2, l3, l4, l5, l6, l7, l8, l10, l11, l12, l20, l30, l48, l50, l60, l100, l120, l140, l152, l164, l176, l188, l200, l212, l224, l1604, l1880, l2000, l2008, l2016, l2024, l2032, l2040, l2048, l2210, l2240, l2270, l2300, l2330, l2390, l2450, l2510, l2570, l2590, l2620, l2650, l2660, l2700, T0, T1, Tm1, Tm99, Tm999, p_within, p_in, p_isCell, p_isOwner, p_isDay11, p_isDay12, p_isTap11, p_isTaker11, if_pos, if_neg, p_isTap12, p_isTaker12, p_isGone, zu1, zu2, zu3, nIe, Nat.reduceSub, e232b, show (1600 : Int32) = nI 1600 from rfl, show (240 : Int32) = nI 240 from rfl, show (1612 : Int32) = nI 1612 from rfl, f4, f3, n3, hw2]
      · have hv1 : ¬ v1 = -1 := by rw [a4]; exact fun q => absurd (congrArg Int32.toInt q) (by rw [nIi (by omega), Tm1]; omega)
        have d8 : v1 / 8 = nI a0 := by rw [a4, show (8 : Int32) = nI 8 from rfl, pk_div (by omega) (by decide) (by decide)]; congr 1; omega
        obtain ⟨F0, z1, z2, z3⟩ : ∃ F0 : Nat, w 232 (240 + a0) = nI F0 ∧ (w 232 (240 + a0)).toInt = F0 ∧ F0 ≤ 400 := by
          have hc := b.2.1.1
          rw [e2] at hc
          obtain ⟨F0, _, _, y1, _, _, _, y2, _⟩ := y_ord h hS o2 (show a0 < S by omega)
          exact ⟨F0, y2, by rw [y2, nIi (by omega)], y1⟩
        have uniq : ∀ a3 k3, qBs w (qCd w N t d) (qPr a k) a3 k3 → (w 232 (240 + a3)).toInt = F0 := by
          intro a3 k3 b3
          have y1 := b.2.2 a3 k3 b3.1 b3.2.1
          have y2 := b3.2.2 a0 k0 b.1 b.2.1
          rw [z2] at y1 y2
          omega
        by_cases hlt : F < F0
        · refine ⟨0, Or.inl rfl, fun _ => ⟨a0, k0, a1, a2, b, a4, by rw [z2]; omega⟩, fun q => absurd q (by decide), fun k20 => ?_⟩
          unfold mX12_ruling_20b mX12_ruling_110
          rw [d8]
          have nl : nI F < nI F0 := by rw [zlt, nIi (by omega), nIi (by omega)]; omega
          simp (disch := (first | omega | (simp (disch := omega) only [zu1, zu2, zu3, nIi, e232b, show (1600 : Int32) = nI 1600 from rfl, show (240 : Int32) = nI 240 from rfl, show (1612 : Int32) = nI 1612 from rfl, f4, f3, n3, hw2, hv1, z1]; omega))) only [if_true, if_false, zE10, zE00, zOkN, Nat.reduceAdd, Nat.reduceMul, zcl_s, zif01, zbn_e, nIi, nI_clamp, nI_add, nI_1, pk_mul, zgi, zlt, zle, Int32.zero_add, Int32.add_zero, C0, C1, G0, G1, Nat.zero_add, Nat.add_zero, l2, l3, l4, l5, l6, l7, l8, l10, l11, l12, l20, l30, l48, l50, l60, l100, l120, l140, l152, l164, l176, l188, l200, l212, l224, l1604, l1880, l2000, l2008, l2016, l2024, l2032, l2040, l2048, l2210, l2240, l2270, l2300, l2330, l2390, l2450, l2510, l2570, l2590, l2620, l2650, l2660, l2700, T0, T1, Tm1, Tm99, Tm999, p_within, p_in, p_isCell, p_isOwner, p_isDay11, p_isDay12, p_isTap11, p_isTaker11, if_pos, if_neg, p_isTap12, p_isTaker12, p_isGone, zu1, zu2, zu3, nIe, Nat.reduceSub, e232b, show (1600 : Int32) = nI 1600 from rfl, show (240 : Int32) = nI 240 from rfl, show (1612 : Int32) = nI 1612 from rfl, f4, f3, n3, hw2, hv1, z1]
        · refine ⟨1, Or.inr rfl, fun q => absurd q (by decide), fun _ a3 k3 b3 => by rw [uniq a3 k3 b3]; omega, fun k20 => ?_⟩
          unfold mX12_ruling_20b mX12_ruling_106 mX12_ruling_110
          rw [d8]
          simp (disch := (first | omega | (simp (disch := omega) only [zu1, zu2, zu3, nIi, e232b, show (1600 : Int32) = nI 1600 from rfl, show (240 : Int32) = nI 240 from rfl, show (1612 : Int32) = nI 1612 from rfl, f4, f3, n3, hw2, hv1, z1]; omega))) only [if_true, if_false, zE10, zE00, zOkN, Nat.reduceAdd, Nat.reduceMul, zcl_s, zif01, zbn_e, nIi, nI_clamp, nI_add, nI_1, pk_mul, zgi, zlt, zle, Int32.zero_add, Int32.add_zero, C0, C1, G0, G1, Nat.zero_add, Nat.add_zero, l2, l3, l4, l5, l6, l7, l8, l10, l11, l12, l20, l30, l48, l50, l60, l100, l120, l140, l152, l164, l176, l188, l200, l212, l224, l1604, l1880, l2000, l2008, l2016, l2024, l2032, l2040, l2048, l2210, l2240, l2270, l2300, l2330, l2390, l2450, l2510, l2570, l2590, l2620, l2650, l2660, l2700, T0, T1, Tm1, Tm99, Tm999, p_within, p_in, p_isCell, p_isOwner, p_isDay11, p_isDay12, p_isTap11, p_isTaker11, if_pos, if_neg, p_isTap12, p_isTaker12, p_isGone, zu1, zu2, zu3, nIe, Nat.reduceSub, e232b, show (1600 : Int32) = nI 1600 from rfl, show (240 : Int32) = nI 240 from rfl, show (1612 : Int32) = nI 1612 from rfl, f4, f3, n3, hw2, hv1, z1]
    obtain ⟨s0, hs0, p0, p1, pe⟩ := pre
    simp only [mX12_ruling_20b, mX12_ruling_159] at pe
    rcases hs0 with rfl | rfl
    · refine ⟨(v1, nI (k + 1), u2), keep u2 hu2 (fun _ => p0 rfl), fun k20 => ?_⟩
      rw [pe]
      unfold mX12_ruling_111 mX12_ruling_149 mX12_ruling_151
      rw [if_pos rfl, nI_1]
    have e138 : nI 8 * nI a + nI k = nI (8 * a + k) := by rw [pk_mul, nI_add]
    by_cases hN0 : N = 0
    rotate_left
    · refine ⟨(nI (8 * a + k), nI (k + 1), u2), take u2 hu2 ⟨by rw [e2]; omega, by rw [f4i]; omega, by rw [f3i]; omega, hw, fun q => absurd q hN0⟩ (p1 rfl), fun k20 => ?_⟩
      rw [pe]
      unfold mX12_ruling_111 mX12_ruling_138 mX12_ruling_151
      rw [if_neg (by decide), if_neg hN0, show (8 : Int32) = nI 8 from rfl, e138, nI_1]
    obtain ⟨ht, hT⟩ := hN hN0
    obtain ⟨p, p', b, y1, y2, y3, _⟩ := hz (by rw [hw, hN0])
    obtain ⟨u3, z1, z2⟩ := h_holds (w := u) (T := T) (show k < 8 by omega) (show qTx u a m by unfold qTx; rw [hu]; exact htx) (by omega) (by rw [hT]; have := told_t u ht; rw [hu] at this; exact this) (by rw [hu]; exact y1) y2 (show qE (qFx u a) m p = _ by rw [show qFx u a = qFx w a by unfold qFx; rw [hu]]; exact y3) hu2
    rw [← yTw_eq h ht] at z1
    by_cases tr : qVal (qTw w t) (qLs w a k) = true
    · refine ⟨(nI (8 * a + k), nI (k + 1), u3), take u3 z2 ⟨by rw [e2]; omega, by rw [f4i]; omega, by rw [f3i]; omega, hw, fun _ => tr⟩ (p1 rfl), fun k20 => ?_⟩
      rw [pe]
      unfold mX12_ruling_111 mX12_ruling_138 mX12_ruling_149 mX12_ruling_151
      rw [if_neg (by decide), if_pos hN0, show (8 : Int32) = nI 8 from rfl, e138, z1, zcl_s, if_pos tr, if_neg (by decide), nI_1]
    · refine ⟨(v1, nI (k + 1), u3), keep u3 z2 (fun c => absurd (c.2.2.2.2 hN0) tr), fun k20 => ?_⟩
      rw [pe]
      unfold mX12_ruling_111 mX12_ruling_138 mX12_ruling_149 mX12_ruling_151
      rw [if_neg (by decide), if_pos hN0, show (8 : Int32) = nI 8 from rfl, e138, z1, zcl_s, if_neg tr, if_pos rfl, nI_1]
  obtain ⟨q', g1, g2⟩ := inner
  simp (disch := (first | omega | (simp (disch := omega) only [zu1, zu2, zu3, nIi, e232, o2]; omega))) only [if_true, if_false, zE10, zE00, zOkN, Nat.reduceAdd, Nat.reduceMul, zcl_s, zif01, zbn_e, nIi, nI_clamp, nI_add, nI_1, pk_mul, zgi, zlt, zle, Int32.zero_add, Int32.add_zero, C0, C1, G0, G1, Nat.zero_add, Nat.add_zero, l2, l3, l4, l5, l6, l7, l8, l10, l11, l12, l20, l30, l48, l50, l60, l100, l120, l140, l152, l164, l176, l188, l200, l212, l224, l1604, l1880, l2000, l2008, l2016, l2024, l2032, l2040, l2048, l2210, l2240, l2270, l2300, l2330, l2390, l2450, l2510, l2570, l2590, l2620, l2650, l2660, l2700, T0, T1, Tm1, Tm99, Tm999, p_within, p_in, p_isCell, p_isOwner, p_isDay11, p_isDay12, p_isTap11, p_isTaker11, if_pos, if_neg, p_isTap12, p_isTaker12, p_isGone, zu1, zu2, zu3, nIe, Nat.reduceSub, e232, o2]
  rw [g2]
  exact hk6 (by omega) q' g1
theorem y_last {w : zWd} (h : yW w) (N : Int32) (t : Nat) (T : Int32) (hN : N = 0 → t < 8 ∧ T = nI t) {a S : Nat} (hS : S ≤ 11) (o2 : w 232 2 = nI S) (ha : a < S) {u : zWd} (hu : qRc w u) : ∃ r, mX2_lastClause (16 + 6 * a) N 82 T u = some (r, u) ∧ ((r = -1 ∧ ∀ k : Nat, (k : Int) < (w 232 (1600 + a)).toInt → ¬ qMt w N t a k) ∨ ∃ k : Nat, k < 8 ∧ (k : Int) < (w 232 (1600 + a)).toInt ∧ qMt w N t a k ∧ (∀ k' : Nat, (k' : Int) < (w 232 (1600 + a)).toInt → qMt w N t a k' → k' ≤ k) ∧ r = nI k) := by
  obtain ⟨F, K, m, hF, hK, f1, f2, f3, f4, htx, hcl⟩ := y_ord h hS o2 ha
  have f4i : (w 232 (1600 + a)).toInt = K := by rw [f4, nIi (by omega)]
  rw [f4i]
  have f2 : u (16 + 6 * a) 1 = nI K := by rw [hu (16 + 6 * a) (by omega) (by omega)]; exact f2
  unfold mX2_lastClause mX2_lastClause_8
  rw [f2, zbn_e]
  refine zlp_R (R := fun X => ∃ r, X = some (r, u) ∧ ((r = -1 ∧ ∀ k : Nat, (k : Int) < K → ¬ qMt w N t a k) ∨ ∃ k : Nat, k < 8 ∧ (k : Int) < K ∧ qMt w N t a k ∧ (∀ k' : Nat, (k' : Int) < K → qMt w N t a k' → k' ≤ k) ∧ r = nI k)) (P := fun i q => q = (nI K - nI (i + 1), u) ∧ ∀ k : Nat, K ≤ k + i → k < K → ¬ qMt w N t a k) (n := K) (by unfold zFU; omega) ?_ ⟨rfl, fun k h1 h2 => by omega⟩
  rintro i hi q ⟨rfl, hq⟩ K8 hK8
  simp only [mX2_lastClause_8b, mX2_lastClause_42, mX2_lastClause_39]
  by_cases e : i = K
  · have e1 : (nI K - nI (i + 1)) < 0 := by
      rw [e, nI_succ, ← Int32.sub_sub, Int32.sub_self]; decide
    rw [if_pos e1]
    exact ⟨-1, rfl, Or.inl ⟨rfl, fun k hk => hq k (by omega) (by omega)⟩⟩
  have e1 : nI K - nI (i + 1) = nI (K - (i + 1)) := pk_sub (by omega)
  have e2 : nI (K - (i + 1)) + -1 = nI K - nI (i + 1 + 1) := by
    rw [← e1, nI_succ (i + 1), ← Int32.sub_sub, Int32.sub_eq_add_neg (nI K - nI (i + 1))]
  rw [e1]
  have hk : K - (i + 1) < K := by omega
  generalize hkk : K - (i + 1) = k at hk e1 e2 ⊢
  obtain ⟨⟨Nw, V, n1, _, n2, n3, _⟩, hz⟩ := hcl k hk
  have n2 : u (17 + 6 * a) k = nI Nw := by rw [hu (17 + 6 * a) (by omega) (by omega)]; exact n2
  have next : ¬ qMt w N t a k → ∃ r, K8 (nI k + -1, u) = some (r, u) ∧ ((r = -1 ∧ ∀ k : Nat, (k : Int) < K → ¬ qMt w N t a k) ∨ ∃ k : Nat, k < 8 ∧ (k : Int) < K ∧ qMt w N t a k ∧ (∀ k' : Nat, (k' : Int) < K → qMt w N t a k' → k' ≤ k) ∧ r = nI k) := by
    intro c
    refine hK8 (by omega) _ ⟨by rw [e2], fun k' h1 h2 => ?_⟩
    by_cases ek : k' = k
    · rw [ek]; exact c
    · exact hq k' (by omega) h2
  have this : qMt w N t a k → ∃ r, some (nI k, u) = some (r, u) ∧ ((r = -1 ∧ ∀ k : Nat, (k : Int) < K → ¬ qMt w N t a k) ∨ ∃ k : Nat, k < 8 ∧ (k : Int) < K ∧ qMt w N t a k ∧ (∀ k' : Nat, (k' : Int) < K → qMt w N t a k' → k' ≤ k) ∧ r = nI k) := by
    intro c
    refine ⟨_, rfl, Or.inr ⟨k, by omega, by omega, c, fun k' h1 h2 => ?_, rfl⟩⟩
    by_cases ek : k' ≤ k
    · exact ek
    · exact absurd h2 (hq k' (by omega) (by omega))
  simp (disch := (first | omega | (simp (disch := omega) only [zu1, zu2, zu3, nIi, show 16 + 6 * a + 1 = 17 + 6 * a by omega]; omega))) only [if_true, if_false, zE10, zE00, zOkN, Nat.reduceAdd, Nat.reduceMul, zcl_s, zif01, zbn_e, nIi, nI_clamp, nI_add, nI_1, pk_mul, zgi, zlt, zle, Int32.zero_add, Int32.add_zero, C0, C1, G0, G1, Nat.zero_add, Nat.add_zero, l2, l3, l4, l5, l6, l7, l8, l10, l11, l12, l20, l30, l48, l50, l60, l100, l120, l140, l152, l164, l176, l188, l200, l212, l224, l1604, l1880, l2000, l2008, l2016, l2024, l2032, l2040, l2048, l2210, l2240, l2270, l2300, l2330, l2390, l2450, l2510, l2570, l2590, l2620, l2650, l2660, l2700, T0, T1, Tm1, Tm99, Tm999, p_within, p_in, p_isCell, p_isOwner, p_isDay11, p_isDay12, p_isTap11, p_isTaker11, if_pos, if_neg, p_isTap12, p_isTaker12, p_isGone, zu1, zu2, zu3, nIe, Nat.reduceSub, show 16 + 6 * a + 1 = 17 + 6 * a by omega]
  by_cases hw : w 232 (1612 + 8 * a + k) = N
  rotate_left
  · rw [n2, ← n3, if_neg hw]
    exact next (fun c => hw c.1)
  rw [n2, ← n3, if_pos hw]
  by_cases hN0 : N = 0
  rotate_left
  · rw [if_neg hN0]
    exact this ⟨hw, fun q => absurd q hN0⟩
  rw [if_pos hN0]
  obtain ⟨ht, rfl⟩ := hN hN0
  obtain ⟨p, p', b, y1, y2, y3, y4, y5, y6, y7⟩ := hz (by rw [hw, hN0])
  rw [s_holds u (o := 16 + 6 * a) (show k < 8 by omega) ht (by rw [show 16 + 6 * a + 3 = 19 + 6 * a by omega, hu (19 + 6 * a) (by omega) (by omega)]; exact y4) (by rw [show 16 + 6 * a + 4 = 20 + 6 * a by omega, hu (20 + 6 * a) (by omega) (by omega)]; exact y5) y6 (by rw [show 16 + 6 * a + 5 = 21 + 6 * a by omega, hu (21 + 6 * a) (by omega) (by omega)]; exact y7) (qGd_E y3).1, zcl_s, qTw_c hu]
  by_cases tr : qVal (qTw w t) (qLs w a k) = true
  · rw [if_pos tr, if_neg (show ¬ (1 : Int32) = 0 by decide)]
    exact this ⟨hw, fun _ => tr⟩
  · rw [if_neg tr, if_pos (show (0 : Int32) = 0 from rfl)]
    exact next (fun c => tr (c.2 hN0))
theorem y_key {w : zWd} (h : yW w) (d : Int32) {V S : Nat} (hV : V ≤ 40100) (hS : S ≤ 11) (o1 : w 14 0 = nI S) (o2 : w 232 2 = nI S) {u : zWd} (hu : qRc w u) : ∃ r, mX3_keyBelow 14 (nI V) d u = some (r, u) ∧ ((r = -1 ∧ ∀ a, a < S → (qFr0 w a : Int) ≤ d.toInt → ¬ qKy w a < V) ∨ ∃ a, a < S ∧ (qFr0 w a : Int) ≤ d.toInt ∧ qKy w a < V ∧ r = nI (qKy w a) ∧ ∀ a', a' < S → (qFr0 w a' : Int) ≤ d.toInt → qKy w a' < V → qKy w a' ≤ qKy w a) := by
  have o1 : u 14 0 = nI S := by rw [hu 14 (by omega) (by omega)]; exact o1
  unfold mX3_keyBelow mX3_keyBelow_5
  refine zlp_R (R := fun X => ∃ r, X = some (r, u) ∧ ((r = -1 ∧ ∀ a, a < S → (qFr0 w a : Int) ≤ d.toInt → ¬ qKy w a < V) ∨ ∃ a, a < S ∧ (qFr0 w a : Int) ≤ d.toInt ∧ qKy w a < V ∧ r = nI (qKy w a) ∧ ∀ a', a' < S → (qFr0 w a' : Int) ≤ d.toInt → qKy w a' < V → qKy w a' ≤ qKy w a))
    (P := fun i q => ∃ r, q = (r, nI i, u) ∧ ((r = -1 ∧ ∀ a, a < i → (qFr0 w a : Int) ≤ d.toInt → ¬ qKy w a < V) ∨ ∃ a, a < i ∧ (qFr0 w a : Int) ≤ d.toInt ∧ qKy w a < V ∧ r = nI (qKy w a) ∧ ∀ a', a' < i → (qFr0 w a' : Int) ≤ d.toInt → qKy w a' < V → qKy w a' ≤ qKy w a)) (n := S) (by unfold zFU; omega) ?_ ⟨-1, rfl, Or.inl ⟨rfl, fun a ha => by omega⟩⟩
  rintro i hi q ⟨r, rfl, hr⟩ K5 hK5
  simp only [mX3_keyBelow_5b, mX3_keyBelow_61]
  by_cases e : i = S
  · subst e
    simp (disch := (first | omega | (simp (disch := omega) only [zu1, zu2, zu3, nIi, o1]; omega))) only [if_true, if_false, zE10, zE00, zOkN, Nat.reduceAdd, Nat.reduceMul, zcl_s, zif01, zbn_e, nIi, nI_clamp, nI_add, nI_1, pk_mul, zgi, zlt, zle, Int32.zero_add, Int32.add_zero, C0, C1, G0, G1, Nat.zero_add, Nat.add_zero, l2, l3, l4, l5, l6, l7, l8, l10, l11, l12, l20, l30, l48, l50, l60, l100, l120, l140, l152, l164, l176, l188, l200, l212, l224, l1604, l1880, l2000, l2008, l2016, l2024, l2032, l2040, l2048, l2210, l2240, l2270, l2300, l2330, l2390, l2450, l2510, l2570, l2590, l2620, l2650, l2660, l2700, T0, T1, Tm1, Tm99, Tm999, p_within, p_in, p_isCell, p_isOwner, p_isDay11, p_isDay12, p_isTap11, p_isTaker11, if_pos, if_neg, p_isTap12, p_isTaker12, p_isGone, zu1, zu2, zu3, nIe, Nat.reduceSub, o1]
    exact ⟨r, rfl, hr⟩
  have hiS : i < S := by omega
  obtain ⟨F, K, m, hF, hK, f1, f2, f3, f4, htx, hcl⟩ := y_ord h hS o2 hiS
  have eF : qFr0 w i = F := by unfold qFr0; rw [f3, nIi (by omega)]; rfl
  have eK : qKy w i = 100 * F + i := by unfold qKy; rw [eF]
  have e16 : u (14 + 1 + 1 + 6 * i) 0 = nI F := by rw [show 14 + 1 + 1 + 6 * i = 16 + 6 * i by omega, hu (16 + 6 * i) (by omega) (by omega)]; exact f1
  have stay : ¬ ((F : Int) ≤ d.toInt ∧ qKy w i < V ∧ r.toInt < qKy w i) → ∃ r_1, K5 (r, nI (i + 1), u) = some (r_1, u) ∧ ((r_1 = -1 ∧ ∀ a, a < S → (qFr0 w a : Int) ≤ d.toInt → ¬ qKy w a < V) ∨ ∃ a, a < S ∧ (qFr0 w a : Int) ≤ d.toInt ∧ qKy w a < V ∧ r_1 = nI (qKy w a) ∧ ∀ a', a' < S → (qFr0 w a' : Int) ≤ d.toInt → qKy w a' < V → qKy w a' ≤ qKy w a) := by
    intro c
    refine hK5 hiS _ ⟨r, rfl, ?_⟩
    rcases hr with ⟨h1, h2⟩ | ⟨a, h1, h2, h3, h4, h5⟩
    · refine Or.inl ⟨h1, fun a ha hd hk => ?_⟩
      by_cases ea : a = i
      · subst ea
        rw [eF] at hd
        exact c ⟨hd, hk, by rw [h1, Tm1]; omega⟩
      · exact h2 a (by omega) hd hk
    · refine Or.inr ⟨a, by omega, h2, h3, h4, fun a' ha' hd hk => ?_⟩
      by_cases ea : a' = i
      · subst ea
        rw [eF] at hd
        have h6 : ¬ r.toInt < qKy w a' := fun q => c ⟨hd, hk, q⟩
        rw [h4, nIi (by omega)] at h6
        omega
      · exact h5 a' (by omega) hd hk
  have r0 : r.toInt = -1 ∨ ∃ a, a < i ∧ r.toInt = qKy w a ∧ qKy w a < V := by
    rcases hr with ⟨h1, _⟩ | ⟨a, h1, h2, h3, h4, h5⟩
    · exact Or.inl (by rw [h1, Tm1])
    · exact Or.inr ⟨a, h1, by rw [h4, nIi (by omega)], h3⟩
  rw [eK] at stay
  by_cases c1 : (F : Int) ≤ d.toInt
  rotate_left
  · simp (disch := (first | omega | (simp (disch := omega) only [zu1, zu2, zu3, nIi, o1, show (100 : Int32) = nI 100 from rfl, l11, show 16 + 6 * i = 14 + 1 + 1 + 6 * i by omega, e16]; omega))) only [if_true, if_false, zE10, zE00, zOkN, Nat.reduceAdd, Nat.reduceMul, zcl_s, zif01, zbn_e, nIi, nI_clamp, nI_add, nI_1, pk_mul, zgi, zlt, zle, Int32.zero_add, Int32.add_zero, C0, C1, G0, G1, Nat.zero_add, Nat.add_zero, l2, l3, l4, l5, l6, l7, l8, l10, l11, l12, l20, l30, l48, l50, l60, l100, l120, l140, l152, l164, l176, l188, l200, l212, l224, l1604, l1880, l2000, l2008, l2016, l2024, l2032, l2040, l2048, l2210, l2240, l2270, l2300, l2330, l2390, l2450, l2510, l2570, l2590, l2620, l2650, l2660, l2700, T0, T1, Tm1, Tm99, Tm999, p_within, p_in, p_isCell, p_isOwner, p_isDay11, p_isDay12, p_isTap11, p_isTaker11, if_pos, if_neg, p_isTap12, p_isTaker12, p_isGone, zu1, zu2, zu3, nIe, Nat.reduceSub, o1, show (100 : Int32) = nI 100 from rfl, l11, show 16 + 6 * i = 14 + 1 + 1 + 6 * i by omega, e16]
    exact stay (fun q => c1 q.1)
  by_cases c2 : 100 * F + i < V
  rotate_left
  · simp (disch := (first | omega | (simp (disch := omega) only [zu1, zu2, zu3, nIi, o1, show (100 : Int32) = nI 100 from rfl, l11, show 16 + 6 * i = 14 + 1 + 1 + 6 * i by omega, e16, show F * 100 + i = 100 * F + i by omega]; omega))) only [if_true, if_false, zE10, zE00, zOkN, Nat.reduceAdd, Nat.reduceMul, zcl_s, zif01, zbn_e, nIi, nI_clamp, nI_add, nI_1, pk_mul, zgi, zlt, zle, Int32.zero_add, Int32.add_zero, C0, C1, G0, G1, Nat.zero_add, Nat.add_zero, l2, l3, l4, l5, l6, l7, l8, l10, l11, l12, l20, l30, l48, l50, l60, l100, l120, l140, l152, l164, l176, l188, l200, l212, l224, l1604, l1880, l2000, l2008, l2016, l2024, l2032, l2040, l2048, l2210, l2240, l2270, l2300, l2330, l2390, l2450, l2510, l2570, l2590, l2620, l2650, l2660, l2700, T0, T1, Tm1, Tm99, Tm999, p_within, p_in, p_isCell, p_isOwner, p_isDay11, p_isDay12, p_isTap11, p_isTaker11, if_pos, if_neg, p_isTap12, p_isTaker12, p_isGone, zu1, zu2, zu3, nIe, Nat.reduceSub, o1, show (100 : Int32) = nI 100 from rfl, l11, show 16 + 6 * i = 14 + 1 + 1 + 6 * i by omega, e16, show F * 100 + i = 100 * F + i by omega]
    exact stay (fun q => c2 q.2.1)
  by_cases c3 : r.toInt < 100 * F + i
  rotate_left
  · simp (disch := (first | omega | (simp (disch := omega) only [zu1, zu2, zu3, nIi, o1, show (100 : Int32) = nI 100 from rfl, l11, show 16 + 6 * i = 14 + 1 + 1 + 6 * i by omega, e16, show F * 100 + i = 100 * F + i by omega]; omega))) only [if_true, if_false, zE10, zE00, zOkN, Nat.reduceAdd, Nat.reduceMul, zcl_s, zif01, zbn_e, nIi, nI_clamp, nI_add, nI_1, pk_mul, zgi, zlt, zle, Int32.zero_add, Int32.add_zero, C0, C1, G0, G1, Nat.zero_add, Nat.add_zero, l2, l3, l4, l5, l6, l7, l8, l10, l11, l12, l20, l30, l48, l50, l60, l100, l120, l140, l152, l164, l176, l188, l200, l212, l224, l1604, l1880, l2000, l2008, l2016, l2024, l2032, l2040, l2048, l2210, l2240, l2270, l2300, l2330, l2390, l2450, l2510, l2570, l2590, l2620, l2650, l2660, l2700, T0, T1, Tm1, Tm99, Tm999, p_within, p_in, p_isCell, p_isOwner, p_isDay11, p_isDay12, p_isTap11, p_isTaker11, if_pos, if_neg, p_isTap12, p_isTaker12, p_isGone, zu1, zu2, zu3, nIe, Nat.reduceSub, o1, show (100 : Int32) = nI 100 from rfl, l11, show 16 + 6 * i = 14 + 1 + 1 + 6 * i by omega, e16, show F * 100 + i = 100 * F + i by omega]
    exact stay (fun q => c3 (by omega))
  · simp (disch := (first | omega | (simp (disch := omega) only [zu1, zu2, zu3, nIi, o1, show (100 : Int32) = nI 100 from rfl, l11, show 16 + 6 * i = 14 + 1 + 1 + 6 * i by omega, e16, show F * 100 + i = 100 * F + i by omega]; omega))) only [if_true, if_false, zE10, zE00, zOkN, Nat.reduceAdd, Nat.reduceMul, zcl_s, zif01, zbn_e, nIi, nI_clamp, nI_add, nI_1, pk_mul, zgi, zlt, zle, Int32.zero_add, Int32.add_zero, C0, C1, G0, G1, Nat.zero_add, Nat.add_zero, l2, l3, l4, l5, l6, l7, l8, l10, l11, l12, l20, l30, l48, l50, l60, l100, l120, l140, l152, l164, l176, l188, l200, l212, l224, l1604, l1880, l2000, l2008, l2016, l2024, l2032, l2040, l2048, l2210, l2240, l2270, l2300, l2330, l2390, l2450, l2510, l2570, l2590, l2620, l2650, l2660, l2700, T0, T1, Tm1, Tm99, Tm999, p_within, p_in, p_isCell, p_isOwner, p_isDay11, p_isDay12, p_isTap11, p_isTaker11, if_pos, if_neg, p_isTap12, p_isTaker12, p_isGone, zu1, zu2, zu3, nIe, Nat.reduceSub, o1, show (100 : Int32) = nI 100 from rfl, l11, show 16 + 6 * i = 14 + 1 + 1 + 6 * i by omega, e16, show F * 100 + i = 100 * F + i by omega]
    refine hK5 hiS _ ⟨nI (100 * F + i), rfl, Or.inr ⟨i, by omega, by rw [eF]; exact c1, by rw [eK]; exact c2, by rw [eK], fun a' ha' hd hk => ?_⟩⟩
    rw [eK]
    by_cases ea : a' = i
    · subst ea; rw [eK]; exact Nat.le_refl _
    · rcases hr with ⟨h1, h2⟩ | ⟨a, h1, h2, h3, h4, h5⟩
      · exact absurd hk (h2 a' (by omega) hd)
      · have := h5 a' (by omega) hd hk
        rw [h4, nIi (by omega)] at c3
        omega
theorem y_ruling11 {w : zWd} (h : yW w) (N d : Int32) (t : Nat) (T : Int32) (hN : N = 0 → t < 8 ∧ T = nI t) {u : zWd} (hu : qRc w u) : ∃ r, mX3_ruling 14 N 82 T d u = some (r, u) ∧ ((r = -5 ∧ ∀ a k, ¬ qCd w N t d a k) ∨ ∃ a k, a < 11 ∧ k < 8 ∧ qBs w (qCd w N t d) (fun _ _ => True) a k ∧ r = nI (100 * a + k)) := by
  obtain ⟨S, hS, o1, o2⟩ := h.1
  have e2 : (w 232 2).toInt = S := by rw [o2, nIi (by omega)]
  have fr : ∀ a, a < S → (w 232 (240 + a)).toInt = qFr0 w a ∧ qFr0 w a ≤ 400 := by
    intro a ha
    obtain ⟨F, K, m, hF, hK, f1, f2, f3, f4, htx, hcl⟩ := y_ord h hS o2 ha
    unfold qFr0
    rw [f3, nIi (by omega)]
    exact ⟨by omega, by omega⟩
  have cS : ∀ a k, qCd w N t d a k → a < S ∧ (qFr0 w a : Int) ≤ d.toInt := fun a k c => by
    have h1 := c.1
    rw [e2] at h1
    exact ⟨by omega, by rw [← (fr a (by omega)).1]; exact c.2.2.1⟩
  have o1w := o1
  have o1 : u 14 0 = nI S := by rw [hu 14 (by omega) (by omega)]; exact o1
  unfold mX3_ruling mX3_ruling_7
  refine zlp_R (R := fun X => ∃ r, X = some (r, u) ∧ ((r = -5 ∧ ∀ a k, ¬ qCd w N t d a k) ∨ ∃ a k, a < 11 ∧ k < 8 ∧ qBs w (qCd w N t d) (fun _ _ => True) a k ∧ r = nI (100 * a + k)))
    (P := fun j q => ∃ V, q = (nI V, nI j, u) ∧ V ≤ 40100 ∧ j ≤ qCt (fun a => decide (V ≤ qKy w a)) S ∧ ∀ a k, qCd w N t d a k → qKy w a < V) (n := S) (by unfold zFU; omega) ?_ ⟨40100, rfl, Nat.le_refl _, Nat.zero_le _, fun a k c => by have := fr a (cS a k c).1; have := (cS a k c).1; unfold qKy; omega⟩
  rintro j hj q ⟨V, rfl, hV, hc, hb⟩ K7 hK7
  simp only [mX3_ruling_7b]
  have nope : (∀ a k, ¬ qCd w N t d a k) → ∃ r, some ((-5 : Int32), u) = some (r, u) ∧ ((r = -5 ∧ ∀ a k, ¬ qCd w N t d a k) ∨ ∃ a k, a < 11 ∧ k < 8 ∧ qBs w (qCd w N t d) (fun _ _ => True) a k ∧ r = nI (100 * a + k)) := fun c => ⟨-5, rfl, Or.inl ⟨rfl, c⟩⟩
  by_cases e : j = S
  · subst e
    rw [o1, if_pos (nI_le (Nat.le_refl _) (by omega))]
    refine nope (fun a k c => ?_)
    have h1 := qCt_lt (p := fun a => decide (V ≤ qKy w a)) (q := fun _ => true) (a0 := a) rfl (by simp only [decide_eq_false_iff_not]; have := hb a k c; omega) j (cS a k c).1 (fun _ _ _ => rfl)
    have h2 := qCt_le (fun _ => true) j
    omega
  rw [o1, if_neg (nI_ge (by omega) (by omega))]
  obtain ⟨r, g1, g2⟩ := y_key h d hV hS o1w o2 hu
  rw [g1, zcl_s]
  rcases g2 with ⟨rfl, g2⟩ | ⟨a, ha, hd, hk, rfl, hmax⟩
  · rw [if_neg (show ¬ (0 : Int32) ≤ -1 by decide)]
    exact nope (fun a k c => g2 a (cS a k c).1 (cS a k c).2 (hb a k c))
  have fa := fr a ha
  have hky : qKy w a = 100 * qFr0 w a + a := rfl
  have em : nI (qKy w a) - nI (qKy w a) / 100 * 100 = nI a := by
    rw [show (100 : Int32) = nI 100 from rfl, pk_rem (by omega) (by decide) (by decide)]
    congr 1; omega
  rw [if_pos (show (0 : Int32) ≤ nI (qKy w a) from nI_pos' (by omega)), em, zgd_t (show zin (nI a) 11 from vp_in_nI (by omega) (by decide)), nI_clamp (show a < 2 ^ 31 by omega), show 14 + 1 + 1 + 6 * a = 16 + 6 * a by omega]
  obtain ⟨r, j1, j2⟩ := y_last h N t T hN hS o2 ha hu
  rw [j1, zcl_s]
  have mt : ∀ k : Nat, (k : Int) < (w 232 (1600 + a)).toInt → (qMt w N t a k ↔ qCd w N t d a k) := fun k hk => ⟨fun c => ⟨by rw [e2]; omega, hk, by rw [fa.1]; exact hd, c.1, c.2⟩, fun c => ⟨c.2.2.2.1, c.2.2.2.2⟩⟩
  rcases j2 with ⟨rfl, j2⟩ | ⟨k, k1, k2, k3, k4, rfl⟩
  · rw [if_pos (show (-1 : Int32) < 0 by decide)]
    refine hK7 (by omega) _ ⟨qKy w a, by rw [nI_succ], by omega, ?_, fun a' k' c => ?_⟩
    · refine Nat.le_trans (Nat.succ_le_succ hc) (qCt_lt (a0 := a) (by simp) (by simp only [decide_eq_false_iff_not]; omega) S ha (fun a' _ hp => ?_))
      simp only [decide_eq_true_eq] at hp ⊢
      omega
    · have h1 := hmax a' (cS a' k' c).1 (cS a' k' c).2 (hb a' k' c)
      by_cases ea : a' = a
      · subst ea
        exact absurd ((mt k' c.2.1).mpr c) (j2 k' c.2.1)
      · have h3 := (cS a' k' c).1
        have : qKy w a' = 100 * qFr0 w a' + a' := rfl
        omega
  · rw [if_neg (by rw [zlt, nIi (by omega), T0]; omega)]
    refine ⟨nI (100 * a + k), ?_, Or.inr ⟨a, k, by omega, k1, ⟨trivial, (mt k k2).mp k3, fun a' k' _ c => ?_⟩, rfl⟩⟩
    · rw [show (100 : Int32) = nI 100 from rfl, pk_mul, nI_add, Nat.mul_comm]
    · have h1 := hmax a' (cS a' k' c).1 (cS a' k' c).2 (hb a' k' c)
      have h3 := (cS a' k' c).1
      have h4 := (fr a' h3).1
      have : qKy w a' = 100 * qFr0 w a' + a' := rfl
      rw [h4, fa.1]
      by_cases ea : a' = a
      · subst ea
        exact Or.inr ⟨rfl, Or.inr ⟨rfl, k4 k' c.2.1 ((mt k' c.2.1).mpr c)⟩⟩
      · omega
theorem y_rul {w : zWd} (h : yW w) (N d : Int32) (t : Nat) (T T2 : Int32) (hN : N = 0 → t < 8 ∧ T = nI t ∧ T2 = nI t) : ((∀ u, qRc w u → mX3_ruling 14 N 82 T d u = some (-5, u)) ∧ ∀ u, u 232 = w 232 → ∃ w', mX12_ruling 231 N T2 d u = some (-1, w') ∧ qS1 u w') ∨ ∃ a k, a < 11 ∧ k < 8 ∧ qCd w N t d a k ∧ (∀ u, qRc w u → mX3_ruling 14 N 82 T d u = some (nI (100 * a + k), u)) ∧ ∀ u, u 232 = w 232 → ∃ w', mX12_ruling 231 N T2 d u = some (nI (8 * a + k), w') ∧ qS1 u w' := by
  obtain ⟨r, r1, r2⟩ := y_ruling11 h N d t T (fun q => ⟨(hN q).1, (hN q).2.1⟩) (qRc.rf w)
  rcases r2 with ⟨_, r2⟩ | ⟨a, k, ha, hk, hb, _⟩
  · refine Or.inl ⟨fun u hu => ?_, fun u hu => ?_⟩
    · obtain ⟨r', q1, q2⟩ := y_ruling11 h N d t T (fun q => ⟨(hN q).1, (hN q).2.1⟩) hu
      rcases q2 with ⟨rfl, _⟩ | ⟨a, k, _, _, b, _⟩
      · exact q1
      · exact absurd b.2.1 (r2 a k)
    · obtain ⟨v, w', g1, g2, g3⟩ := y_ruling12 h N d t T2 (fun q => ⟨(hN q).1, (hN q).2.2⟩) hu
      rcases g3 with ⟨rfl, _⟩ | ⟨a', k', _, _, b', _⟩
      · exact ⟨w', g1, g2⟩
      · exact absurd b'.2.1 (r2 a' k')
  · refine Or.inr ⟨a, k, ha, hk, hb.2.1, fun u hu => ?_, fun u hu => ?_⟩
    · obtain ⟨r', q1, q2⟩ := y_ruling11 h N d t T (fun q => ⟨(hN q).1, (hN q).2.1⟩) hu
      rcases q2 with ⟨_, q2⟩ | ⟨a', k', _, _, b', rfl⟩
      · exact absurd hb.2.1 (q2 a k)
      · obtain ⟨rfl, rfl⟩ := qBs_eq hb b'
        exact q1
    · obtain ⟨v, w', g1, g2, g3⟩ := y_ruling12 h N d t T2 (fun q => ⟨(hN q).1, (hN q).2.2⟩) hu
      rcases g3 with ⟨_, g3⟩ | ⟨a', k', _, _, b', rfl⟩
      · exact absurd hb.2.1 (g3 a k trivial)
      · obtain ⟨rfl, rfl⟩ := qBs_eq hb b'
        exact ⟨w', g1, g2⟩
theorem y_num {w : zWd} (h : yW w) {N : Nat} (hN6 : N < 6) (d : Int32) (t : Nat) (T T2 : Int32) (hN : N = 0 → t < 8 ∧ T = nI t ∧ T2 = nI t) : ∃ x, x ≤ 999 ∧ (∀ u, qRc w u → ∃ r, mX3_ruling 14 (nI N) 82 T d u = some (r, u) ∧ mX3_numberBy 14 r (nI N) u = some (nI x, u)) ∧ ∀ u, u 232 = w 232 → ∃ w', mX12_ruleFor 231 (nI N) T2 d u = some (nI x, w') ∧ qS1 u w' := by
  obtain ⟨S, hS, o1, o2⟩ := h.1
  have e2 : (w 232 2).toInt = S := by rw [o2, nIi (by omega)]
  have hN2 : nI N = 0 → t < 8 ∧ T = nI t ∧ T2 = nI t := fun q => hN (by rw [show (0 : Int32) = nI 0 from rfl, nIe (by omega) (by omega)] at q; exact q)
  rcases y_rul h (nI N) d t T T2 hN2 with ⟨r1, r2⟩ | ⟨a, k, ha, hk, hc, r1, r2⟩
  · have m5 : ∀ u, mX3_numberBy 14 (-5) (nI N) u = some ((zSVv 1).getD N 0, u) := fun u => by
      unfold mX3_numberBy
      rw [if_neg (by decide), zgd_t (show zin (nI N) 6 from vp_in_nI hN6 (by decide)), nI_clamp (by omega)]
    have mm : ∀ v : Int32, (if (nI N : Int32) = 0 then (100 : Int32) else if nI N = 1 then 99 else if nI N = 3 then 99 else if nI N = 2 then 1 else 0) = v → ∀ u, u 232 = w 232 → ∃ w', mX12_ruleFor 231 (nI N) T2 d u = some (v, w') ∧ qS1 u w' := by
      intro v hv u hu
      obtain ⟨w', g1, g2⟩ := r2 u hu
      refine ⟨w', ?_, g2⟩
      unfold mX12_ruleFor mX12_ruleFor_61 mX12_ruleFor_46 mX12_ruleFor_61
      rw [g1, zcl_s, if_pos rfl, ← hv]
      by_cases c0 : (nI N : Int32) = 0
      · rw [if_pos c0, if_pos c0]
      rw [if_neg c0, if_neg c0]
      by_cases c1 : (nI N : Int32) = 1
      · rw [if_pos c1, if_pos c1]
      rw [if_neg c1, if_neg c1]
      by_cases c3 : (nI N : Int32) = 3
      · rw [if_pos c3, if_pos c3]
      rw [if_neg c3, if_neg c3]
      by_cases c2 : (nI N : Int32) = 2
      · rw [if_pos c2, if_pos c2]
      rw [if_neg c2, if_neg c2]
    have key : ∀ v : Nat, v ≤ 999 → (zSVv 1).getD N 0 = nI v → (if (nI N : Int32) = 0 then (100 : Int32) else if nI N = 1 then 99 else if nI N = 3 then 99 else if nI N = 2 then 1 else 0) = nI v → ∃ x, x ≤ 999 ∧ (∀ u, qRc w u → ∃ r, mX3_ruling 14 (nI N) 82 T d u = some (r, u) ∧ mX3_numberBy 14 r (nI N) u = some (nI x, u)) ∧ ∀ u, u 232 = w 232 → ∃ w', mX12_ruleFor 231 (nI N) T2 d u = some (nI x, w') ∧ qS1 u w' := fun v h1 h2 h3 => ⟨v, h1, fun u hu => ⟨_, r1 u hu, by rw [m5, h2]⟩, mm _ h3⟩
    clear mm m5 hN hN2 r1 r2
    rcases (show N = 0 ∨ N = 1 ∨ N = 2 ∨ N = 3 ∨ N = 4 ∨ N = 5 by omega) with rfl | rfl | rfl | rfl | rfl | rfl
    · exact key 100 (by decide) (by decide +kernel) (by decide +kernel)
    · exact key 99 (by decide) (by decide +kernel) (by decide +kernel)
    · exact key 1 (by decide) (by decide +kernel) (by decide +kernel)
    · exact key 99 (by decide) (by decide +kernel) (by decide +kernel)
    · exact key 0 (by decide) (by decide +kernel) (by decide +kernel)
    · exact key 0 (by decide) (by decide +kernel) (by decide +kernel)
  · have haS : a < S := by have := hc.1; rw [e2] at this; omega
    obtain ⟨F, K, m, hF, hK, f1, f2, f3, f4, htx, hcl⟩ := y_ord h hS o2 haS
    have hkK : k < K := by have := hc.2.1; rw [f4, nIi (by omega)] at this; omega
    obtain ⟨⟨Nw, V, n1, n2, n3, n4, n5, n6⟩, _⟩ := hcl k hkK
    refine ⟨V, n2, fun u hu => ⟨_, r1 u hu, ?_⟩, fun u hu => ?_⟩
    · unfold mX3_numberBy
      have d1 : nI (100 * a + k) / 100 = nI a := by rw [show (100 : Int32) = nI 100 from rfl, pk_div (by omega) (by decide) (by decide)]; congr 1; omega
      have d2 : nI (100 * a + k) - nI a * 100 = nI k := by rw [show (100 : Int32) = nI 100 from rfl, pk_mul, pk_sub (by omega)]; congr 1; omega
      rw [if_pos (show (0 : Int32) ≤ nI (100 * a + k) from nI_pos' (by omega)), d1, d2, zgd_t (show zin (nI a) 11 from vp_in_nI (by omega) (by decide)), zgd_t (show zin (nI k) 8 from vp_in_nI hk (by decide)), nI_clamp (by omega), nI_clamp (by omega), show 14 + 1 + 1 + 6 * a + 2 = 18 + 6 * a by omega, hu (18 + 6 * a) (by omega) (by omega), n5]
    · obtain ⟨w', g1, g2⟩ := r2 u hu
      refine ⟨w', ?_, g2⟩
      have e232 := (g2.1 232 (by decide)).trans hu
      unfold mX12_ruleFor
      have n0 : ¬ nI (8 * a + k) = -1 := fun q => absurd (congrArg Int32.toInt q) (by rw [nIi (by omega), Tm1]; omega)
      rw [g1, zcl_s, if_neg n0]
      simp (disch := (first | omega | (simp (disch := omega) only [zu1, zu2, zu3, nIi, show (1700 : Int32) = nI 1700 from rfl, e232]; omega))) only [if_true, if_false, zE10, zE00, zOkN, Nat.reduceAdd, Nat.reduceMul, zcl_s, zif01, zbn_e, nIi, nI_clamp, nI_add, nI_1, pk_mul, zgi, zlt, zle, Int32.zero_add, Int32.add_zero, C0, C1, G0, G1, Nat.zero_add, Nat.add_zero, l2, l3, l4, l5, l6, l7, l8, l10, l11, l12, l20, l30, l48, l50, l60, l100, l120, l140, l152, l164, l176, l188, l200, l212, l224, l1604, l1880, l2000, l2008, l2016, l2024, l2032, l2040, l2048, l2210, l2240, l2270, l2300, l2330, l2390, l2450, l2510, l2570, l2590, l2620, l2650, l2660, l2700, T0, T1, Tm1, Tm99, Tm999, p_within, p_in, p_isCell, p_isOwner, p_isDay11, p_isDay12, p_isTap11, p_isTaker11, if_pos, if_neg, p_isTap12, p_isTaker12, p_isGone, zu1, zu2, zu3, nIe, Nat.reduceSub, show (1700 : Int32) = nI 1700 from rfl, e232]
      rw [show 1700 + (8 * a + k) = 1700 + 8 * a + k by omega, n6]
theorem y_row {w : zWd} (h : yW w) (d : Int32) {K : Nat} (hK : K ≤ 8) (e1 : w 82 0 = nI K) (e2 : w 232 3 = nI K) : ∃ R : Nat → Int32,
    (∀ u, qRc w u → ∃ u', mX5_form 217 14 82 d u = some ((), u') ∧ (∀ a, a ≠ 217 → a ≠ 218 → a ≠ 219 → u' a = u a) ∧ u' 217 0 = nI K ∧ (∀ t, t < K → u' 218 t = R t) ∧ u' 219 = qLn R (w 87) K (u 219))
    ∧ (∀ t, t < K → ∀ u, u 232 = w 232 → ∃ u', mX12_rankOf 231 (nI t) d u = some (R t, u') ∧ qS1 u u')
    ∧ ∀ u, u 232 = w 232 → ∃ u', mX12_rows 231 d u = some ((), u') ∧ (∀ a, a ≠ 231 → a ≠ 240 → a ≠ 241 → u' a = u a) ∧ (∀ j, j < 10 ∨ 14 < j → u' 231 j = u 231 j) ∧ (∀ t, t < K → u' 241 t = R t) ∧ u' 240 = qLn R (w 87) K (u 240) := by
  have hx : ∀ t, ∃ x : Nat, t < K → (∀ u, qRc w u → ∃ r, mX3_ruling 14 0 82 (nI t) d u = some (r, u) ∧ mX3_numberBy 14 r 0 u = some (nI x, u)) ∧ ∀ u, u 232 = w 232 → ∃ w', mX12_ruleFor 231 0 (nI t) d u = some (nI x, w') ∧ qS1 u w' := by
    intro t
    by_cases ht : t < K
    · obtain ⟨x, _, g⟩ := y_num h (N := 0) (by omega) d t (nI t) (nI t) (fun _ => ⟨by omega, rfl, rfl⟩)
      exact ⟨x, fun _ => g⟩
    · exact ⟨0, fun q => absurd q ht⟩
  obtain ⟨X, hX⟩ := Classical.axiomOfChoice hx
  have hkd : ∀ t, t < K → w 83 t = w 232 (2000 + t) := fun t ht => (h.2.2 t (by omega)).1
  have hsi : ∀ t, t < K → w 87 t = w 232 (2032 + t) := fun t ht => (h.2.2 t (by omega)).2.2.2.2
  let R : Nat → Int32 := fun t => nI (X t) - qLess (w 83 t)
  have hR : ∀ t, nI (X t) - qLess (w 83 t) = R t := fun t => rfl
  clear_value R
  have rank : ∀ t, t < K → ∀ u, u 232 = w 232 → ∃ u', mX12_rankOf 231 (nI t) d u = some (R t, u') ∧ qS1 u u' := by
    intro t ht u hu
    obtain ⟨u', g1, g2⟩ := (hX t ht).2 u hu
    refine ⟨u', ?_, g2⟩
    unfold mX12_rankOf mX12_rankOf_37
    have ek : u 232 (2000 + t) = w 83 t := by rw [hu, hkd t ht]
    by_cases c4 : w 83 t = 4
    · rw [show R t = nI (X t) - 1 by rw [← hR t]; unfold qLess; rw [if_pos c4]]
      simp (disch := (first | omega | (simp (disch := omega) only [zu1, zu2, zu3, nIi, ek, g1, c4]; omega))) only [if_true, if_false, zE10, zE00, zOkN, Nat.reduceAdd, Nat.reduceMul, zcl_s, zif01, zbn_e, nIi, nI_clamp, nI_add, nI_1, pk_mul, zgi, zlt, zle, Int32.zero_add, Int32.add_zero, C0, C1, G0, G1, Nat.zero_add, Nat.add_zero, l2, l3, l4, l5, l6, l7, l8, l10, l11, l12, l20, l30, l48, l50, l60, l100, l120, l140, l152, l164, l176, l188, l200, l212, l224, l1604, l1880, l2000, l2008, l2016, l2024, l2032, l2040, l2048, l2210, l2240, l2270, l2300, l2330, l2390, l2450, l2510, l2570, l2590, l2620, l2650, l2660, l2700, T0, T1, Tm1, Tm99, Tm999, p_within, p_in, p_isCell, p_isOwner, p_isDay11, p_isDay12, p_isTap11, p_isTaker11, if_pos, if_neg, p_isTap12, p_isTaker12, p_isGone, zu1, zu2, zu3, nIe, Nat.reduceSub, ek, g1, c4]
    by_cases c5 : w 83 t = 5
    · rw [show R t = nI (X t) - nI 2 by rw [← hR t]; unfold qLess; rw [if_neg c4, if_pos c5]; rfl]
      simp (disch := (first | omega | (simp (disch := omega) only [zu1, zu2, zu3, nIi, ek, g1, c5]; omega))) only [if_true, if_false, zE10, zE00, zOkN, Nat.reduceAdd, Nat.reduceMul, zcl_s, zif01, zbn_e, nIi, nI_clamp, nI_add, nI_1, pk_mul, zgi, zlt, zle, Int32.zero_add, Int32.add_zero, C0, C1, G0, G1, Nat.zero_add, Nat.add_zero, l2, l3, l4, l5, l6, l7, l8, l10, l11, l12, l20, l30, l48, l50, l60, l100, l120, l140, l152, l164, l176, l188, l200, l212, l224, l1604, l1880, l2000, l2008, l2016, l2024, l2032, l2040, l2048, l2210, l2240, l2270, l2300, l2330, l2390, l2450, l2510, l2570, l2590, l2620, l2650, l2660, l2700, T0, T1, Tm1, Tm99, Tm999, p_within, p_in, p_isCell, p_isOwner, p_isDay11, p_isDay12, p_isTap11, p_isTaker11, if_pos, if_neg, p_isTap12, p_isTaker12, p_isGone, zu1, zu2, zu3, nIe, Nat.reduceSub, ek, g1, c5]
    · rw [show R t = nI (X t) - 0 by rw [← hR t]; unfold qLess; rw [if_neg c4, if_neg c5]]
      have c4' : ¬ w 83 t = nI 4 := c4
      have c5' : ¬ w 83 t = nI 5 := c5
      simp (disch := (first | omega | (simp (disch := omega) only [zu1, zu2, zu3, nIi, ek, g1, c4', c5']; omega))) only [if_true, if_false, zE10, zE00, zOkN, Nat.reduceAdd, Nat.reduceMul, zcl_s, zif01, zbn_e, nIi, nI_clamp, nI_add, nI_1, pk_mul, zgi, zlt, zle, Int32.zero_add, Int32.add_zero, C0, C1, G0, G1, Nat.zero_add, Nat.add_zero, l2, l3, l4, l5, l6, l7, l8, l10, l11, l12, l20, l30, l48, l50, l60, l100, l120, l140, l152, l164, l176, l188, l200, l212, l224, l1604, l1880, l2000, l2008, l2016, l2024, l2032, l2040, l2048, l2210, l2240, l2270, l2300, l2330, l2390, l2450, l2510, l2570, l2590, l2620, l2650, l2660, l2700, T0, T1, Tm1, Tm99, Tm999, p_within, p_in, p_isCell, p_isOwner, p_isDay11, p_isDay12, p_isTap11, p_isTaker11, if_pos, if_neg, p_isTap12, p_isTaker12, p_isGone, zu1, zu2, zu3, nIe, Nat.reduceSub, ek, g1, c4', c5']
  refine ⟨R, ?_, rank, ?_⟩
  · intro u hu
    unfold mX5_form mX5_form_11
    rw [zbn_e, hu 82 (by omega) (by omega), e1]
    refine zlp_R (R := fun (Y : Option (Unit × zWd)) => ∃ u' : zWd, Y = some ((), u') ∧ (∀ a, a ≠ 217 → a ≠ 218 → a ≠ 219 → u' a = u a) ∧ u' 217 0 = nI K ∧ (∀ t, t < K → u' 218 t = R t) ∧ u' 219 = qLn R (w 87) K (u 219))
      (P := fun (i : Nat) (q : Int32 × zWd) => ∃ u' : zWd, q = (nI i, u') ∧ (∀ a, a ≠ 217 → a ≠ 218 → a ≠ 219 → u' a = u a) ∧ u' 217 0 = nI K ∧ (∀ t, t < i → u' 218 t = R t) ∧ u' 219 = qLn R (w 87) i (u 219)) (n := K) (by unfold zFU; omega) ?_ ⟨zup u 217 0 (nI K), rfl, fun a h1 _ _ => zpE _ _ _ h1, zu3 _ _ _ _, fun t ht => by omega, zpE _ _ _ (by decide)⟩
    rintro i hi q ⟨u1, rfl, g1, g2, g3, g4⟩ k hk
    simp only [mX5_form_11b]
    by_cases e : i = K
    · subst e
      refine ⟨u1, ?_, g1, g2, g3, g4⟩
      simp (disch := (first | omega | (simp (disch := omega) only [zu1, zu2, zu3, nIi, g2]; omega))) only [if_true, if_false, zE10, zE00, zOkN, Nat.reduceAdd, Nat.reduceMul, zcl_s, zif01, zbn_e, nIi, nI_clamp, nI_add, nI_1, pk_mul, zgi, zlt, zle, Int32.zero_add, Int32.add_zero, C0, C1, G0, G1, Nat.zero_add, Nat.add_zero, l2, l3, l4, l5, l6, l7, l8, l10, l11, l12, l20, l30, l48, l50, l60, l100, l120, l140, l152, l164, l176, l188, l200, l212, l224, l1604, l1880, l2000, l2008, l2016, l2024, l2032, l2040, l2048, l2210, l2240, l2270, l2300, l2330, l2390, l2450, l2510, l2570, l2590, l2620, l2650, l2660, l2700, T0, T1, Tm1, Tm99, Tm999, p_within, p_in, p_isCell, p_isOwner, p_isDay11, p_isDay12, p_isTap11, p_isTaker11, if_pos, if_neg, p_isTap12, p_isTaker12, p_isGone, zu1, zu2, zu3, nIe, Nat.reduceSub, g2]
    have hiK : i < K := by omega
    have rc : qRc w u1 := fun a h1 h2 => (g1 a (by omega) (by omega) (by omega)).trans (hu a h1 h2)
    obtain ⟨r, j1, j2⟩ := (hX i hiK).1 u1 rc
    have k83 : u1 83 i = w 83 i := by rw [rc 83 (by omega) (by omega)]
    have f50 : ∀ s0, qLess (w 83 i) = s0 → ∃ u', mX5_form_50 k 217 14 82 d (nI i) s0 u1 = some ((), u') ∧ (∀ a, a ≠ 217 → a ≠ 218 → a ≠ 219 → u' a = u a) ∧ u' 217 0 = nI K ∧ (∀ t, t < K → u' 218 t = R t) ∧ u' 219 = qLn R (w 87) K (u 219) := by
      intro s0 hs0
      unfold mX5_form_50 mX5_insert mX5_insert_2
      rw [j1, zcl_s, j2, zcl_s, zgd_t (show zin (nI i) 8 from vp_in_nI (by omega) (by decide)), zbn_e, nI_clamp (show i < 2 ^ 31 by omega), ← hs0, hR i]
      have hp : zup u1 (217 + 1) i (R i) = qPw (zup u1 218 i (R i)) 219 (qLn R (w 87) i (u 219)) := by
        rw [← g4, show u1 219 = zup u1 218 i (R i) 219 from (zpE _ _ _ (by decide)).symm, qPw_s]
      rw [hp, s_insert (R := R) (S := w 87) (by omega) (fun j hj => ?_) (fun j hj => ?_) i _ zFU (Nat.le_refl i) (by unfold zFU; omega) (fun j hj => qLn_v i _ j hj), zcl_s, ← nI_succ]
      · refine hk hiK _ ⟨_, rfl, fun a h1 h2 h3 => ?_, ?_, fun t ht => ?_, ?_⟩
        · rw [qPw_n _ _ h3, zpE _ _ _ h2]; exact g1 a h1 h2 h3
        · rw [qPw_n _ _ (by decide), zpE _ _ _ (by decide)]; exact g2
        · rw [qPw_n _ _ (by decide)]
          by_cases et : t = i
          · rw [et, zu3]
          · rw [zu2 _ _ et]; exact g3 t (by omega)
        · rw [qPw_e]; rfl
      · by_cases ej : j = i
        · rw [ej, zu3]
        · rw [zu2 _ _ ej]; exact g3 j (by omega)
      · rw [zpE _ _ _ (by decide), rc 87 (by omega) (by omega)]
    by_cases c4 : w 83 i = 4
    · have f := f50 1 (if_pos c4)
      simp (disch := (first | omega | (simp (disch := omega) only [zu1, zu2, zu3, nIi, g2, k83, c4]; omega))) only [if_true, if_false, zE10, zE00, zOkN, Nat.reduceAdd, Nat.reduceMul, zcl_s, zif01, zbn_e, nIi, nI_clamp, nI_add, nI_1, pk_mul, zgi, zlt, zle, Int32.zero_add, Int32.add_zero, C0, C1, G0, G1, Nat.zero_add, Nat.add_zero, l2, l3, l4, l5, l6, l7, l8, l10, l11, l12, l20, l30, l48, l50, l60, l100, l120, l140, l152, l164, l176, l188, l200, l212, l224, l1604, l1880, l2000, l2008, l2016, l2024, l2032, l2040, l2048, l2210, l2240, l2270, l2300, l2330, l2390, l2450, l2510, l2570, l2590, l2620, l2650, l2660, l2700, T0, T1, Tm1, Tm99, Tm999, p_within, p_in, p_isCell, p_isOwner, p_isDay11, p_isDay12, p_isTap11, p_isTaker11, if_pos, if_neg, p_isTap12, p_isTaker12, p_isGone, zu1, zu2, zu3, nIe, Nat.reduceSub, g2, k83, c4]
      exact f
    by_cases c5 : w 83 i = 5
    · have f := f50 2 ((if_neg c4).trans (if_pos c5))
      simp (disch := (first | omega | (simp (disch := omega) only [zu1, zu2, zu3, nIi, g2, k83, c5]; omega))) only [if_true, if_false, zE10, zE00, zOkN, Nat.reduceAdd, Nat.reduceMul, zcl_s, zif01, zbn_e, nIi, nI_clamp, nI_add, nI_1, pk_mul, zgi, zlt, zle, Int32.zero_add, Int32.add_zero, C0, C1, G0, G1, Nat.zero_add, Nat.add_zero, l2, l3, l4, l5, l6, l7, l8, l10, l11, l12, l20, l30, l48, l50, l60, l100, l120, l140, l152, l164, l176, l188, l200, l212, l224, l1604, l1880, l2000, l2008, l2016, l2024, l2032, l2040, l2048, l2210, l2240, l2270, l2300, l2330, l2390, l2450, l2510, l2570, l2590, l2620, l2650, l2660, l2700, T0, T1, Tm1, Tm99, Tm999, p_within, p_in, p_isCell, p_isOwner, p_isDay11, p_isDay12, p_isTap11, p_isTaker11, if_pos, if_neg, p_isTap12, p_isTaker12, p_isGone, zu1, zu2, zu3, nIe, Nat.reduceSub, g2, k83, c5]
      exact f
    · have f := f50 0 ((if_neg c4).trans (if_neg c5))
      have c4' : ¬ w 83 i = nI 4 := c4
      have c5' : ¬ w 83 i = nI 5 := c5
      simp (disch := (first | omega | (simp (disch := omega) only [zu1, zu2, zu3, nIi, g2, k83, c4', c5']; omega))) only [if_true, if_false, zE10, zE00, zOkN, Nat.reduceAdd, Nat.reduceMul, zcl_s, zif01, zbn_e, nIi, nI_clamp, nI_add, nI_1, pk_mul, zgi, zlt, zle, Int32.zero_add, Int32.add_zero, C0, C1, G0, G1, Nat.zero_add, Nat.add_zero, l2, l3, l4, l5, l6, l7, l8, l10, l11, l12, l20, l30, l48, l50, l60, l100, l120, l140, l152, l164, l176, l188, l200, l212, l224, l1604, l1880, l2000, l2008, l2016, l2024, l2032, l2040, l2048, l2210, l2240, l2270, l2300, l2330, l2390, l2450, l2510, l2570, l2590, l2620, l2650, l2660, l2700, T0, T1, Tm1, Tm99, Tm999, p_within, p_in, p_isCell, p_isOwner, p_isDay11, p_isDay12, p_isTap11, p_isTaker11, if_pos, if_neg, p_isTap12, p_isTaker12, p_isGone, zu1, zu2, zu3, nIe, Nat.reduceSub, g2, k83, c4', c5']
      exact f
  · intro u hu
    unfold mX12_rows mX12_rows_2
    refine zlp_R (R := fun (Y : Option (Unit × zWd)) => ∃ u' : zWd, Y = some ((), u') ∧ (∀ a, a ≠ 231 → a ≠ 240 → a ≠ 241 → u' a = u a) ∧ (∀ j, j < 10 ∨ 14 < j → u' 231 j = u 231 j) ∧ (∀ t, t < K → u' 241 t = R t) ∧ u' 240 = qLn R (w 87) K (u 240))
      (P := fun (i : Nat) (q : Int32 × zWd) => ∃ u' : zWd, q = (nI i, u') ∧ (∀ a, a ≠ 231 → a ≠ 240 → a ≠ 241 → u' a = u a) ∧ (∀ j, j < 10 ∨ 14 < j → u' 231 j = u 231 j) ∧ (∀ t, t < i → u' 241 t = R t) ∧ u' 240 = qLn R (w 87) i (u 240)) (n := K) (by unfold zFU; omega) ?_ ⟨u, rfl, fun _ _ _ _ => rfl, fun _ _ => rfl, fun t ht => by omega, rfl⟩
    rintro i hi q ⟨u1, rfl, g1, g2, g3, g4⟩ k hk
    simp only [mX12_rows_2b]
    have e232 : u1 232 = w 232 := (g1 232 (by decide) (by decide) (by decide)).trans hu
    by_cases e : i = K
    · subst e
      refine ⟨u1, ?_, g1, g2, g3, g4⟩
      simp (disch := (first | omega | (simp (disch := omega) only [zu1, zu2, zu3, nIi, e232, e2]; omega))) only [if_true, if_false, zE10, zE00, zOkN, Nat.reduceAdd, Nat.reduceMul, zcl_s, zif01, zbn_e, nIi, nI_clamp, nI_add, nI_1, pk_mul, zgi, zlt, zle, Int32.zero_add, Int32.add_zero, C0, C1, G0, G1, Nat.zero_add, Nat.add_zero, l2, l3, l4, l5, l6, l7, l8, l10, l11, l12, l20, l30, l48, l50, l60, l100, l120, l140, l152, l164, l176, l188, l200, l212, l224, l1604, l1880, l2000, l2008, l2016, l2024, l2032, l2040, l2048, l2210, l2240, l2270, l2300, l2330, l2390, l2450, l2510, l2570, l2590, l2620, l2650, l2660, l2700, T0, T1, Tm1, Tm99, Tm999, p_within, p_in, p_isCell, p_isOwner, p_isDay11, p_isDay12, p_isTap11, p_isTaker11, if_pos, if_neg, p_isTap12, p_isTaker12, p_isGone, zu1, zu2, zu3, nIe, Nat.reduceSub, e232, e2]
    have hiK : i < K := by omega
    obtain ⟨u2, j1, j2⟩ := rank i hiK u1 e232
    simp (disch := (first | omega | (simp (disch := omega) only [zu1, zu2, zu3, nIi, e232, e2, j1]; omega))) only [if_true, if_false, zE10, zE00, zOkN, Nat.reduceAdd, Nat.reduceMul, zcl_s, zif01, zbn_e, nIi, nI_clamp, nI_add, nI_1, pk_mul, zgi, zlt, zle, Int32.zero_add, Int32.add_zero, C0, C1, G0, G1, Nat.zero_add, Nat.add_zero, l2, l3, l4, l5, l6, l7, l8, l10, l11, l12, l20, l30, l48, l50, l60, l100, l120, l140, l152, l164, l176, l188, l200, l212, l224, l1604, l1880, l2000, l2008, l2016, l2024, l2032, l2040, l2048, l2210, l2240, l2270, l2300, l2330, l2390, l2450, l2510, l2570, l2590, l2620, l2650, l2660, l2700, T0, T1, Tm1, Tm99, Tm999, p_within, p_in, p_isCell, p_isOwner, p_isDay11, p_isDay12, p_isTap11, p_isTaker11, if_pos, if_neg, p_isTap12, p_isTaker12, p_isGone, zu1, zu2, zu3, nIe, Nat.reduceSub, e232, e2, j1]
    unfold mX12_rows_26
    have p240 : u2 240 = qLn R (w 87) i (u 240) := (j2.1 240 (by decide)).trans g4
    have hp : zup u2 241 i (R i) = qPw (zup u2 241 i (R i)) 240 (qLn R (w 87) i (u 240)) := by
      rw [← p240]
      conv => lhs; rw [← qPw_s (zup u2 241 i (R i)) 240]
      rw [zpE _ _ _ (show 240 ≠ 241 by decide)]
    rw [hp, s_insert12 (R := R) (S := w 87) k d (by omega) (fun j hj => ?_) (fun j hj => ?_) i _ zFU (Nat.le_refl i) (by unfold zFU; omega) (fun j hj => qLn_v i _ j hj)]
    · refine hk hiK _ ⟨_, rfl, fun a h1 h2 h3 => ?_, fun j hj => ?_, fun t ht => ?_, ?_⟩
      · rw [qPw_n _ _ h2, zpE _ _ _ h3, j2.1 a h1]; exact g1 a h1 h2 h3
      · rw [qPw_n _ _ (by decide), zpE _ _ _ (by decide), j2.2 j hj]; exact g2 j hj
      · rw [qPw_n _ _ (by decide)]
        by_cases et : t = i
        · rw [et, zu3]
        · rw [zu2 _ _ et, j2.1 241 (by decide)]; exact g3 t (by omega)
      · rw [qPw_e]; rfl
    · by_cases ej : j = i
      · rw [ej, zu3]
      · rw [zu2 _ _ ej, j2.1 241 (by decide)]; exact g3 j (by omega)
    · rw [zpE _ _ _ (by decide), j2.1 232 (by decide), e232]; exact (hsi j (by omega)).symm
