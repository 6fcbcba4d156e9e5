/-- the World is the same -/
def qRc (w u : zWd) : Prop := ∀ a, 1 ≤ a → a ≤ 102 → u a = w a
theorem qRc.rf (w : zWd) : qRc w w := fun _ _ _ => rfl
theorem qTw_c {w u : zWd} (hu : qRc w u) (t : Nat) : qTw u t = qTw w t := by unfold qTw; rw [hu 83 (by omega) (by omega), hu 84 (by omega) (by omega), hu 85 (by omega) (by omega), hu 86 (by omega) (by omega), hu 87 (by omega) (by omega)]
/-- a clause that may rule: word N, taker t, day d -/
def qCd (w : zWd) (N : Int32) (t : Nat) (d : Int32) (a k : Nat) : Prop := (a : Int) < (w 232 2).toInt ∧ (k : Int) < (w 232 (1600 + a)).toInt ∧ (w 232 (240 + a)).toInt ≤ d.toInt ∧ w 232 (1612 + 8 * a + k) = N ∧ (N = 0 → qVal (qTw w t) (qLs w a k) = true)
/-- the one that rules, among those of Pr -/
def qBs (w : zWd) (C Pr : Nat → Nat → Prop) (a k : Nat) : Prop := Pr a k ∧ C a k ∧ ∀ a' k', Pr a' k' → C a' k' → ((w 232 (240 + a')).toInt < (w 232 (240 + a)).toInt ∨ ((w 232 (240 + a')).toInt = (w 232 (240 + a)).toInt ∧ (a' < a ∨ (a' = a ∧ k' ≤ k))))
def qBo (w : zWd) (C Pr : Nat → Nat → Prop) (v : Int32) : Prop := (v = -1 ∧ ∀ a k, Pr a k → ¬ C a k) ∨ ∃ a k, a < 10 ∧ k < 8 ∧ qBs w C Pr a k ∧ v = nI (8 * a + k)
theorem qBo.more {w : zWd} {C Pr Pr2 : Nat → Nat → Prop} {v : Int32} (h : qBo w C Pr v) (h1 : ∀ a k, Pr a k → Pr2 a k) (h2 : ∀ a k, Pr2 a k → C a k → Pr a k) : qBo w C Pr2 v := by
  rcases h with ⟨g1, g2⟩ | ⟨a, k, g1, g2, ⟨g3, g4, g5⟩, g6⟩
  · exact Or.inl ⟨g1, fun a k q c => g2 a k (h2 a k q c) c⟩
  · exact Or.inr ⟨a, k, g1, g2, ⟨h1 a k g3, g4, fun a' k' q c => g5 a' k' (h2 a' k' q c) c⟩, g6⟩
/-- those before clause k of order a -/
def qPr (a k : Nat) (a' k' : Nat) : Prop := a' < a ∨ (a' = a ∧ k' < k)
theorem qTw_eq {n : Nat} {w : zWd} (h : qInv n w) {t : Nat} (ht : t < 8) : qTw w t = qTv (w 232 (2000 + t)) (w 232 (2008 + t)) (w 232 (2016 + t)) (w 232 (2024 + t)) (w 232 (2032 + t)) := by
  have q1 := qTo h 13 rfl (by decide) (i := t) ht
  have q2 := qTo h 14 rfl (by decide) (i := t) ht
  have q3 := qTo h 15 rfl (by decide) (i := t) ht
  have q4 := qTo h 16 rfl (by decide) (i := t) ht
  have q5 := qTo h 17 rfl (by decide) (i := t) ht
  simp only [Nat.zero_add, Nat.reduceAdd] at q1 q2 q3 q4 q5
  unfold qTw
  rw [q1, q2, q3, q4, q5]
theorem s_ruling12 {n : Nat} {w : zWd} (h : qInv n w) (N d : Int32) (t : Nat) (T : Int32) (hN : N = 0 → t < 8 ∧ T = nI t) {u : zWd} (hu : u 232 = w 232) : ∃ v w', mX12_ruling 231 N T d u = some (v, w') ∧ qS1 u w' ∧ qBo w (qCd w N t d) (fun _ _ => True) v := by
  obtain ⟨S, hS, o1, o2⟩ := q_orders h
  have e2 : (w 232 2).toInt = S := by rw [o2, nIi (by omega)]
  unfold mX12_ruling mX12_ruling_6
  refine zlp_R (R := fun X => ∃ v w', X = some (v, w') ∧ qS1 u w' ∧ qBo w (qCd w N t d) (fun _ _ => True) v) (P := fun i q => ∃ v w', q = (v, nI i, w') ∧ qS1 u w' ∧ qBo w (qCd w N t d) (qPr i 0) v) (n := S) (by unfold zFU; omega) ?_ ⟨-1, u, rfl, qS1.rf u, Or.inl ⟨rfl, fun a k q => by unfold qPr at q; omega⟩⟩
  rintro a ha q ⟨v, u1, rfl, hu1, hb⟩ k6 hk6
  have e232 := (hu1.1 232 (by decide)).trans hu
  simp only [mX12_ruling_6b]
  by_cases haS : a = S
  · refine ⟨v, u1, ?_, hu1, hb.more (fun _ _ _ => trivial) (fun a' k' _ c => ?_)⟩
    · simp (disch := (first | omega | (simp (disch := omega) only [zu1, zu2, zu3, nIi, e232, o2]; omega))) only [if_true, if_false, zE10, zE00, zOkN, Nat.reduceAdd, Nat.reduceMul, zcl_s, zif01, zbn_e, nIi, nI_clamp, nI_add, nI_1, pk_mul, zgi, zlt, zle, Int32.zero_add, Int32.add_zero, C0, C1, G0, G1, Nat.zero_add, Nat.add_zero, l2, l3, l4, l5, l6, l7, l8, l10, l11, l12, l20, l30, l48, l50, l60, l100, l120, l140, l152, l164, l176, l188, l200, l212, l224, l1604, l1880, l2000, l2008, l2016, l2024, l2032, l2040, l2048, l2210, l2240, l2270, l2300, l2330, l2390, l2450, l2510, l2570, l2590, l2620, l2650, l2660, l2700, T0, T1, Tm1, Tm99, Tm999, p_within, p_in, p_isCell, p_isOwner, p_isDay11, p_isDay12, p_isTap11, p_isTaker11, if_pos, if_neg, p_isTap12, p_isTaker12, p_isGone, zu1, zu2, zu3, nIe, Nat.reduceSub, e232, o2]
    · have := c.1; rw [e2] at this; exact Or.inl (by omega)
  obtain ⟨F, K, m, hF, hK, f1, f2, f3, f4, htx, hcl⟩ := q_ord h hS o2 (show a < S by omega)
  have f3i : (w 232 (240 + a)).toInt = F := by rw [f3, nIi (by omega)]
  have f4i : (w 232 (1600 + a)).toInt = K := by rw [f4, nIi (by omega)]
  have inner : ∃ q', (∃ v w', q' = (v, nI (a + 1), w') ∧ qS1 u w' ∧ qBo w (qCd w N t d) (qPr (a + 1) 0) v) ∧ mX12_ruling_20 k6 231 N T d (nI a) v 0 u1 = k6 q' := by
    unfold mX12_ruling_20
    refine zlp_ex2 (R := fun X => ∃ q', (∃ v w', q' = (v, nI (a + 1), w') ∧ qS1 u w' ∧ qBo w (qCd w N t d) (qPr (a + 1) 0) v) ∧ X = k6 q') (P := fun i q => ∃ v w', q = (v, nI i, w') ∧ qS1 u w' ∧ qBo w (qCd w N t d) (qPr a i) v) (n := K) (by unfold zFU; omega) ?_ ⟨v, u1, rfl, hu1, hb⟩
    rintro k hk q ⟨v1, u2, rfl, hu2, hb2⟩
    have e232b := (hu2.1 232 (by decide)).trans hu
    simp only [mX12_ruling_20b, mX12_ruling_159]
    by_cases hkK : k = K
    · refine Or.inl ⟨_, ⟨(v1, nI (a + 1), u2), ⟨v1, u2, rfl, hu2, hb2.more (fun a' k' q => Or.inl (by unfold qPr at q; omega)) (fun a' k' q c => ?_)⟩, rfl⟩, fun k20 => ?_⟩
      · unfold qPr at q ⊢
        have c2 := c.2.1
        by_cases ea : a' = a
        · rw [ea, f4i] at c2; exact Or.inr ⟨ea, by omega⟩
        · exact Or.inl (by omega)
      · simp (disch := (first | omega | (simp (disch := omega) only [zu1, zu2, zu3, nIi, e232b, show (1600 : Int32) = nI 1600 from rfl, f4]; omega))) only [if_true, if_false, zE10, zE00, zOkN, Nat.reduceAdd, Nat.reduceMul, zcl_s, zif01, zbn_e, nIi, nI_clamp, nI_add, nI_1, pk_mul, zgi, zlt, zle, Int32.zero_add, Int32.add_zero, C0, C1, G0, G1, Nat.zero_add, Nat.add_zero, l2, l3, l4, l5, l6, l7, l8, l10, l11, l12, l20, l30, l48, l50, l60, l100, l120, l140, l152, l164, l176, l188, l200, l212, l224, l1604, l1880, l2000, l2008, l2016, l2024, l2032, l2040, l2048, l2210, l2240, l2270, l2300, l2330, l2390, l2450, l2510, l2570, l2590, l2620, l2650, l2660, l2700, T0, T1, Tm1, Tm99, Tm999, p_within, p_in, p_isCell, p_isOwner, p_isDay11, p_isDay12, p_isTap11, p_isTaker11, if_pos, if_neg, p_isTap12, p_isTaker12, p_isGone, zu1, zu2, zu3, nIe, Nat.reduceSub, e232b, show (1600 : Int32) = nI 1600 from rfl, f4]
    by_cases hd : d.toInt < F
    · refine Or.inl ⟨_, ⟨(v1, nI (a + 1), u2), ⟨v1, u2, rfl, hu2, hb2.more (fun a' k' q => Or.inl (by unfold qPr at q; omega)) (fun a' k' q c => ?_)⟩, rfl⟩, fun k20 => ?_⟩
      · unfold qPr at q ⊢
        have c3 := c.2.2.1
        by_cases ea : a' = a
        · rw [ea, f3i] at c3; omega
        · exact Or.inl (by omega)
      · simp (disch := (first | omega | (simp (disch := omega) only [zu1, zu2, zu3, nIi, e232b, show (1600 : Int32) = nI 1600 from rfl, show (240 : Int32) = nI 240 from rfl, f4, f3]; omega))) only [if_true, if_false, zE10, zE00, zOkN, Nat.reduceAdd, Nat.reduceMul, zcl_s, zif01, zbn_e, nIi, nI_clamp, nI_add, nI_1, pk_mul, zgi, zlt, zle, Int32.zero_add, Int32.add_zero, C0, C1, G0, G1, Nat.zero_add, Nat.add_zero, l2, l3, l4, l5, l6, l7, l8, l10, l11, l12, l20, l30, l48, l50, l60, l100, l120, l140, l152, l164, l176, l188, l200, l212, l224, l1604, l1880, l2000, l2008, l2016, l2024, l2032, l2040, l2048, l2210, l2240, l2270, l2300, l2330, l2390, l2450, l2510, l2570, l2590, l2620, l2650, l2660, l2700, T0, T1, Tm1, Tm99, Tm999, p_within, p_in, p_isCell, p_isOwner, p_isDay11, p_isDay12, p_isTap11, p_isTaker11, if_pos, if_neg, p_isTap12, p_isTaker12, p_isGone, zu1, zu2, zu3, nIe, Nat.reduceSub, e232b, show (1600 : Int32) = nI 1600 from rfl, show (240 : Int32) = nI 240 from rfl, f4, f3]
    have hk8 : k < K := by omega
    obtain ⟨⟨Nw, V, n1, _, n2, n3, _⟩, hz⟩ := hcl k hk8
    refine Or.inr ⟨hk8, ?_⟩
    -- what is taken, and what isn't
    have keep : ∀ u3, qS1 u u3 → (qCd w N t d a k → ∃ a0 k0, a0 < 10 ∧ k0 < 8 ∧ qBs w (qCd w N t d) (qPr a k) a0 k0 ∧ v1 = nI (8 * a0 + k0) ∧ (F : Int) < (w 232 (240 + a0)).toInt) → ∃ v w', (v1, nI (k + 1), u3) = (v, nI (k + 1), w') ∧ qS1 u w' ∧ qBo w (qCd w N t d) (qPr a (k + 1)) v := by
      intro u3 hu3 hc
      refine ⟨v1, u3, rfl, hu3, ?_⟩
      by_cases c : qCd w N t d a k
      · obtain ⟨a0, k0, a1, a2, ⟨b1, b2, b3⟩, a4, a5⟩ := hc c
        refine Or.inr ⟨a0, k0, a1, a2, ⟨by unfold qPr at b1 ⊢; omega, b2, fun a' k' q c' => ?_⟩, a4⟩
        by_cases e : a' = a ∧ k' = k
        · rw [e.1, f3i]; exact Or.inl a5
        · exact b3 a' k' (by unfold qPr at q ⊢; omega) c'
      · refine hb2.more (fun a' k' q => by unfold qPr at q ⊢; omega) (fun a' k' q c' => ?_)
        by_cases e : a' = a ∧ k' = k
        · rw [e.1, e.2] at c'; exact absurd c' c
        · unfold qPr at q ⊢; omega
    have take : ∀ u3, qS1 u u3 → qCd w N t d a k → (∀ a0 k0, qBs w (qCd w N t d) (qPr a k) a0 k0 → (w 232 (240 + a0)).toInt ≤ F) → ∃ v w', (nI (8 * a + k), nI (k + 1), u3) = (v, nI (k + 1), w') ∧ qS1 u w' ∧ qBo w (qCd w N t d) (qPr a (k + 1)) v := by
      intro u3 hu3 c hc
      refine ⟨_, u3, rfl, hu3, Or.inr ⟨a, k, by omega, by omega, ⟨Or.inr ⟨rfl, by omega⟩, c, fun a' k' q c' => ?_⟩, rfl⟩⟩
      rw [f3i]
      have hle : a' < a ∨ (a' = a ∧ k' ≤ k) := by unfold qPr at q; omega
      by_cases e : a' = a ∧ k' = k
      · rw [e.1, f3i]; exact Or.inr ⟨rfl, Or.inr ⟨rfl, by omega⟩⟩
      rcases hb2 with ⟨_, g2⟩ | ⟨a0, k0, _, _, b, _⟩
      · exact absurd c' (g2 a' k' (by unfold qPr at q ⊢; omega))
      · have b0 := hc a0 k0 b
        rcases b.2.2 a' k' (by unfold qPr at q ⊢; omega) c' with b4 | ⟨b4, _⟩
        · exact Or.inl (by omega)
        · by_cases e5 : (w 232 (240 + a0)).toInt < F
          · exact Or.inl (by omega)
          · exact Or.inr ⟨by omega, hle⟩
    have nope : ¬ qCd w N t d a k → (∃ q', (∃ v w', q' = (v, nI (k + 1), w') ∧ qS1 u w' ∧ qBo w (qCd w N t d) (qPr a (k + 1)) v) ∧ q' = (v1, nI (k + 1), u2)) := fun c => ⟨_, keep u2 hu2 (fun c' => absurd c' c), rfl⟩
    have ew : ∀ x, zgd (zin (nI 1612 + nI 8 * nI a + nI k) 21948) x = x := fun x : Option (Int32 × zWd) => by rw [pk_mul, nI_add, nI_add]; exact zgi (by omega) (by decide) x
    by_cases hw : w 232 (1612 + 8 * a + k) = N
    rotate_left
    · obtain ⟨q', g1, g2⟩ := nope (fun c => hw c.2.2.2.1)
      refine ⟨q', g1, fun k20 => ?_⟩
      rw [g2]
      have hw2 : ¬ nI Nw = N := by rw [← n3]; exact hw
      simp only [mX12_ruling_110, mX12_ruling_111, mX12_ruling_149, mX12_ruling_151]
      simp (disch := (first | omega | (simp (disch := omega) only [zu1, zu2, zu3, nIi, e232b, show (1600 : Int32) = nI 1600 from rfl, show (240 : Int32) = nI 240 from rfl, show (1612 : Int32) = nI 1612 from rfl, f4, f3, n3, hw2]; omega))) only [if_true, if_false, zE10, zE00, zOkN, Nat.reduceAdd, Nat.reduceMul, zcl_s, zif01, zbn_e, nIi, nI_clamp, nI_add, nI_1, pk_mul, zgi, zlt, zle, Int32.zero_add, Int32.add_zero, C0, C1, G0, G1, Nat.zero_add, Nat.add_zero, l2, l3, l4, l5, l6, l7, l8, l10, l11, l12, l20, l30, l48, l50, l60, l100, l120, l140, l152, l164, l176, l188, l200, l212, l224, l1604, l1880, l2000, l2008, l2016, l2024, l2032, l2040, l2048, l2210, l2240, l2270, l2300, l2330, l2390, l2450, l2510, l2570, l2590, l2620, l2650, l2660, l2700, T0, T1, Tm1, Tm99, Tm999, p_within, p_in, p_isCell, p_isOwner, p_isDay11, p_isDay12, p_isTap11, p_isTaker11, if_pos, if_neg, p_isTap12, p_isTaker12, p_isGone, zu1, zu2, zu3, nIe, Nat.reduceSub, e232b, show (1600 : Int32) = nI 1600 from rfl, show (240 : Int32) = nI 240 from rfl, show (1612 : Int32) = nI 1612 from rfl, f4, f3, n3, hw2]
    have hw2 : (nI Nw = N) = True := by rw [← n3]; exact eq_true hw
    -- is it taken before its truth is asked
    have pre : ∃ s0 : Int32, (s0 = 0 ∨ s0 = 1) ∧ (s0 = 0 → ∃ a0 k0, a0 < 10 ∧ k0 < 8 ∧ qBs w (qCd w N t d) (qPr a k) a0 k0 ∧ v1 = nI (8 * a0 + k0) ∧ (F : Int) < (w 232 (240 + a0)).toInt) ∧ (s0 = 1 → ∀ a0 k0, qBs w (qCd w N t d) (qPr a k) a0 k0 → (w 232 (240 + a0)).toInt ≤ F) ∧ ∀ k20, mX12_ruling_20b k6 231 N T d (nI a) k20 v1 (nI k) u2 = mX12_ruling_111 k6 k20 231 N T d v1 (nI a) (nI k) s0 u2 := by
      rcases hb2 with ⟨g1, g2⟩ | ⟨a0, k0, a1, a2, b, a4⟩
      · refine ⟨1, Or.inr rfl, fun q => absurd q (by decide), fun _ a0 k0 b => absurd b.2.1 (g2 a0 k0 b.1), fun k20 => ?_⟩
        unfold mX12_ruling_20b mX12_ruling_106
        subst g1
        simp (disch := (first | omega | (simp (disch := omega) only [zu1, zu2, zu3, nIi, e232b, show (1600 : Int32) = nI 1600 from rfl, show (240 : Int32) = nI 240 from rfl, show (1612 : Int32) = nI 1612 from rfl, f4, f3, n3, hw2]; omega))) only [if_true, if_false, zE10, zE00, zOkN, Nat.reduceAdd, Nat.reduceMul, zcl_s, zif01, zbn_e, nIi, nI_clamp, nI_add, nI_1, pk_mul, zgi, zlt, zle, Int32.zero_add, Int32.add_zero, C0, C1, G0, G1, Nat.zero_add, Nat.add_zero, l2, l3, l4, l5, l6, l7, l8, l10, l11, l12, l20, l30, l48, l50, l60, l100, l120, l140, l152, l164, l176, l188, l200, l212, l224, l1604, l1880, l2000, l2008, l2016, l2024, l2032, l2040, l2048, l2210, l2240, l2270, l2300, l2330, l2390, l2450, l2510, l2570, l2590, l2620, l2650, l2660, l2700, T0, T1, Tm1, Tm99, Tm999, p_within, p_in, p_isCell, p_isOwner, p_isDay11, p_isDay12, p_isTap11, p_isTaker11, if_pos, if_neg, p_isTap12, p_isTaker12, p_isGone, zu1, zu2, zu3, nIe, Nat.reduceSub, e232b, show (1600 : Int32) = nI 1600 from rfl, show (240 : Int32) = nI 240 from rfl, show (1612 : Int32) = nI 1612 from rfl, f4, f3, n3, hw2]
      · have hv1 : ¬ v1 = -1 := by rw [a4]; exact fun q => absurd (congrArg Int32.toInt q) (by rw [nIi (by omega), Tm1]; omega)
        have d8 : v1 / 8 = nI a0 := by rw [a4, show (8 : Int32) = nI 8 from rfl, pk_div (by omega) (by decide) (by decide)]; congr 1; omega
        obtain ⟨F0, z1, z2, z3⟩ : ∃ F0 : Nat, w 232 (240 + a0) = nI F0 ∧ (w 232 (240 + a0)).toInt = F0 ∧ F0 ≤ 400 := by
          have hc := b.2.1.1
          rw [e2] at hc
          obtain ⟨F0, _, _, y1, _, _, _, y2, _⟩ := q_ord h hS o2 (show a0 < S by omega)
          exact ⟨F0, y2, by rw [y2, nIi (by omega)], y1⟩
        have uniq : ∀ a3 k3, qBs w (qCd w N t d) (qPr a k) a3 k3 → (w 232 (240 + a3)).toInt = F0 := by
          intro a3 k3 b3
          have y1 := b.2.2 a3 k3 b3.1 b3.2.1
          have y2 := b3.2.2 a0 k0 b.1 b.2.1
          rw [z2] at y1 y2
          omega
        by_cases hlt : F < F0
        · refine ⟨0, Or.inl rfl, fun _ => ⟨a0, k0, a1, a2, b, a4, by rw [z2]; omega⟩, fun q => absurd q (by decide), fun k20 => ?_⟩
          unfold mX12_ruling_20b mX12_ruling_110
          rw [d8]
          have nl : nI F < nI F0 := by rw [zlt, nIi (by omega), nIi (by omega)]; omega
          simp (disch := (first | omega | (simp (disch := omega) only [zu1, zu2, zu3, nIi, e232b, show (1600 : Int32) = nI 1600 from rfl, show (240 : Int32) = nI 240 from rfl, show (1612 : Int32) = nI 1612 from rfl, f4, f3, n3, hw2, hv1, z1]; omega))) only [if_true, if_false, zE10, zE00, zOkN, Nat.reduceAdd, Nat.reduceMul, zcl_s, zif01, zbn_e, nIi, nI_clamp, nI_add, nI_1, pk_mul, zgi, zlt, zle, Int32.zero_add, Int32.add_zero, C0, C1, G0, G1, Nat.zero_add, Nat.add_zero, l2, l3, l4, l5, l6, l7, l8, l10, l11, l12, l20, l30, l48, l50, l60, l100, l120, l140, l152, l164, l176, l188, l200, l212, l224, l1604, l1880, l2000, l2008, l2016, l2024, l2032, l2040, l2048, l2210, l2240, l2270, l2300, l2330, l2390, l2450, l2510, l2570, l2590, l2620, l2650, l2660, l2700, T0, T1, Tm1, Tm99, Tm999, p_within, p_in, p_isCell, p_isOwner, p_isDay11, p_isDay12, p_isTap11, p_isTaker11, if_pos, if_neg, p_isTap12, p_isTaker12, p_isGone, zu1, zu2, zu3, nIe, Nat.reduceSub, e232b, show (1600 : Int32) = nI 1600 from rfl, show (240 : Int32) = nI 240 from rfl, show (1612 : Int32) = nI 1612 from rfl, f4, f3, n3, hw2, hv1, z1]
        · refine ⟨1, Or.inr rfl, fun q => absurd q (by decide), fun _ a3 k3 b3 => by rw [uniq a3 k3 b3]; omega, fun k20 => ?_⟩
          unfold mX12_ruling_20b mX12_ruling_106 mX12_ruling_110
          rw [d8]
          simp (disch := (first | omega | (simp (disch := omega) only [zu1, zu2, zu3, nIi, e232b, show (1600 : Int32) = nI 1600 from rfl, show (240 : Int32) = nI 240 from rfl, show (1612 : Int32) = nI 1612 from rfl, f4, f3, n3, hw2, hv1, z1]; omega))) only [if_true, if_false, zE10, zE00, zOkN, Nat.reduceAdd, Nat.reduceMul, zcl_s, zif01, zbn_e, nIi, nI_clamp, nI_add, nI_1, pk_mul, zgi, zlt, zle, Int32.zero_add, Int32.add_zero, C0, C1, G0, G1, Nat.zero_add, Nat.add_zero, l2, l3, l4, l5, l6, l7, l8, l10, l11, l12, l20, l30, l48, l50, l60, l100, l120, l140, l152, l164, l176, l188, l200, l212, l224, l1604, l1880, l2000, l2008, l2016, l2024, l2032, l2040, l2048, l2210, l2240, l2270, l2300, l2330, l2390, l2450, l2510, l2570, l2590, l2620, l2650, l2660, l2700, T0, T1, Tm1, Tm99, Tm999, p_within, p_in, p_isCell, p_isOwner, p_isDay11, p_isDay12, p_isTap11, p_isTaker11, if_pos, if_neg, p_isTap12, p_isTaker12, p_isGone, zu1, zu2, zu3, nIe, Nat.reduceSub, e232b, show (1600 : Int32) = nI 1600 from rfl, show (240 : Int32) = nI 240 from rfl, show (1612 : Int32) = nI 1612 from rfl, f4, f3, n3, hw2, hv1, z1]
    obtain ⟨s0, hs0, p0, p1, pe⟩ := pre
    simp only [mX12_ruling_20b, mX12_ruling_159] at pe
    rcases hs0 with rfl | rfl
    · refine ⟨(v1, nI (k + 1), u2), keep u2 hu2 (fun _ => p0 rfl), fun k20 => ?_⟩
      rw [pe]
      unfold mX12_ruling_111 mX12_ruling_149 mX12_ruling_151
      rw [if_pos rfl, nI_1]
    have e138 : nI 8 * nI a + nI k = nI (8 * a + k) := by rw [pk_mul, nI_add]
    by_cases hN0 : N = 0
    rotate_left
    · refine ⟨(nI (8 * a + k), nI (k + 1), u2), take u2 hu2 ⟨by rw [e2]; omega, by rw [f4i]; omega, by rw [f3i]; omega, hw, fun q => absurd q hN0⟩ (p1 rfl), fun k20 => ?_⟩
      rw [pe]
      unfold mX12_ruling_111 mX12_ruling_138 mX12_ruling_151
      rw [if_neg (by decide), if_neg hN0, show (8 : Int32) = nI 8 from rfl, e138, nI_1]
    obtain ⟨ht, hT⟩ := hN hN0
    obtain ⟨p, p', b, y1, y2, y3, _⟩ := hz (by rw [hw, hN0])
    obtain ⟨u3, z1, z2⟩ := h_holds (w := u) (T := T) (show k < 8 by omega) (show qTx u a m by unfold qTx; rw [hu]; exact htx) (by omega) (by rw [hT]; have := told_t u ht; rw [hu] at this; exact this) (by rw [hu]; exact y1) y2 (show qE (qFx u a) m p = _ by rw [show qFx u a = qFx w a by unfold qFx; rw [hu]]; exact y3) hu2
    rw [← qTw_eq h ht] at z1
    by_cases tr : qVal (qTw w t) (qLs w a k) = true
    · refine ⟨(nI (8 * a + k), nI (k + 1), u3), take u3 z2 ⟨by rw [e2]; omega, by rw [f4i]; omega, by rw [f3i]; omega, hw, fun _ => tr⟩ (p1 rfl), fun k20 => ?_⟩
      rw [pe]
      unfold mX12_ruling_111 mX12_ruling_138 mX12_ruling_149 mX12_ruling_151
      rw [if_neg (by decide), if_pos hN0, show (8 : Int32) = nI 8 from rfl, e138, z1, zcl_s, if_pos tr, if_neg (by decide), nI_1]
    · refine ⟨(v1, nI (k + 1), u3), keep u3 z2 (fun c => absurd (c.2.2.2.2 hN0) tr), fun k20 => ?_⟩
      rw [pe]
      unfold mX12_ruling_111 mX12_ruling_138 mX12_ruling_149 mX12_ruling_151
      rw [if_neg (by decide), if_pos hN0, show (8 : Int32) = nI 8 from rfl, e138, z1, zcl_s, if_neg tr, if_pos rfl, nI_1]
  obtain ⟨q', g1, g2⟩ := inner
  simp (disch := (first | omega | (simp (disch := omega) only [zu1, zu2, zu3, nIi, e232, o2]; omega))) only [if_true, if_false, zE10, zE00, zOkN, Nat.reduceAdd, Nat.reduceMul, zcl_s, zif01, zbn_e, nIi, nI_clamp, nI_add, nI_1, pk_mul, zgi, zlt, zle, Int32.zero_add, Int32.add_zero, C0, C1, G0, G1, Nat.zero_add, Nat.add_zero, l2, l3, l4, l5, l6, l7, l8, l10, l11, l12, l20, l30, l48, l50, l60, l100, l120, l140, l152, l164, l176, l188, l200, l212, l224, l1604, l1880, l2000, l2008, l2016, l2024, l2032, l2040, l2048, l2210, l2240, l2270, l2300, l2330, l2390, l2450, l2510, l2570, l2590, l2620, l2650, l2660, l2700, T0, T1, Tm1, Tm99, Tm999, p_within, p_in, p_isCell, p_isOwner, p_isDay11, p_isDay12, p_isTap11, p_isTaker11, if_pos, if_neg, p_isTap12, p_isTaker12, p_isGone, zu1, zu2, zu3, nIe, Nat.reduceSub, e232, o2]
  rw [g2]
  exact hk6 (by omega) q' g1
