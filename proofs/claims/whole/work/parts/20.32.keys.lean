/-- a clause of order a is asked for -/
def qMt (w : zWd) (N : Int32) (t a k : Nat) : Prop := w 232 (1612 + 8 * a + k) = N ∧ (N = 0 → qVal (qTw w t) (qLs w a k) = true)
theorem s_last {n : Nat} {w : zWd} (h : qInv n w) (N : Int32) (t : Nat) (T : Int32) (hN : N = 0 → t < 8 ∧ T = nI t) {a S : Nat} (hS : S ≤ 10) (o2 : w 232 2 = nI S) (ha : a < S) {u : zWd} (hu : qRc w u) : ∃ r, mX2_lastClause (16 + 6 * a) N 82 T u = some (r, u) ∧ ((r = -1 ∧ ∀ k : Nat, (k : Int) < (w 232 (1600 + a)).toInt → ¬ qMt w N t a k) ∨ ∃ k : Nat, k < 8 ∧ (k : Int) < (w 232 (1600 + a)).toInt ∧ qMt w N t a k ∧ (∀ k' : Nat, (k' : Int) < (w 232 (1600 + a)).toInt → qMt w N t a k' → k' ≤ k) ∧ r = nI k) := by
  obtain ⟨F, K, m, hF, hK, f1, f2, f3, f4, htx, hcl⟩ := q_ord h hS o2 ha
  have f4i : (w 232 (1600 + a)).toInt = K := by rw [f4, nIi (by omega)]
  rw [f4i]
  have f2 : u (16 + 6 * a) 1 = nI K := by rw [hu (16 + 6 * a) (by omega) (by omega)]; exact f2
  unfold mX2_lastClause mX2_lastClause_8
  rw [f2, zbn_e]
  refine zlp_R (R := fun X => ∃ r, X = some (r, u) ∧ ((r = -1 ∧ ∀ k : Nat, (k : Int) < K → ¬ qMt w N t a k) ∨ ∃ k : Nat, k < 8 ∧ (k : Int) < K ∧ qMt w N t a k ∧ (∀ k' : Nat, (k' : Int) < K → qMt w N t a k' → k' ≤ k) ∧ r = nI k)) (P := fun i q => q = (nI K - nI (i + 1), u) ∧ ∀ k : Nat, K ≤ k + i → k < K → ¬ qMt w N t a k) (n := K) (by unfold zFU; omega) ?_ ⟨rfl, fun k h1 h2 => by omega⟩
  rintro i hi q ⟨rfl, hq⟩ K8 hK8
  simp only [mX2_lastClause_8b, mX2_lastClause_42, mX2_lastClause_39]
  by_cases e : i = K
  · have e1 : (nI K - nI (i + 1)) < 0 := by
      rw [e, nI_succ, ← Int32.sub_sub, Int32.sub_self]; decide
    rw [if_pos e1]
    exact ⟨-1, rfl, Or.inl ⟨rfl, fun k hk => hq k (by omega) (by omega)⟩⟩
  have e1 : nI K - nI (i + 1) = nI (K - (i + 1)) := pk_sub (by omega)
  have e2 : nI (K - (i + 1)) + -1 = nI K - nI (i + 1 + 1) := by
    rw [← e1, nI_succ (i + 1), ← Int32.sub_sub, Int32.sub_eq_add_neg (nI K - nI (i + 1))]
  rw [e1]
  have hk : K - (i + 1) < K := by omega
  generalize hkk : K - (i + 1) = k at hk e1 e2 ⊢
  obtain ⟨⟨Nw, V, n1, _, n2, n3, _⟩, hz⟩ := hcl k hk
  have n2 : u (17 + 6 * a) k = nI Nw := by rw [hu (17 + 6 * a) (by omega) (by omega)]; exact n2
  have next : ¬ qMt w N t a k → ∃ r, K8 (nI k + -1, u) = some (r, u) ∧ ((r = -1 ∧ ∀ k : Nat, (k : Int) < K → ¬ qMt w N t a k) ∨ ∃ k : Nat, k < 8 ∧ (k : Int) < K ∧ qMt w N t a k ∧ (∀ k' : Nat, (k' : Int) < K → qMt w N t a k' → k' ≤ k) ∧ r = nI k) := by
    intro c
    refine hK8 (by omega) _ ⟨by rw [e2], fun k' h1 h2 => ?_⟩
    by_cases ek : k' = k
    · rw [ek]; exact c
    · exact hq k' (by omega) h2
  have this : qMt w N t a k → ∃ r, some (nI k, u) = some (r, u) ∧ ((r = -1 ∧ ∀ k : Nat, (k : Int) < K → ¬ qMt w N t a k) ∨ ∃ k : Nat, k < 8 ∧ (k : Int) < K ∧ qMt w N t a k ∧ (∀ k' : Nat, (k' : Int) < K → qMt w N t a k' → k' ≤ k) ∧ r = nI k) := by
    intro c
    refine ⟨_, rfl, Or.inr ⟨k, by omega, by omega, c, fun k' h1 h2 => ?_, rfl⟩⟩
    by_cases ek : k' ≤ k
    · exact ek
    · exact absurd h2 (hq k' (by omega) (by omega))
  simp (disch := (first | omega | (simp (disch := omega) only [zu1, zu2, zu3, nIi, show 16 + 6 * a + 1 = 17 + 6 * a by omega]; omega))) only [if_true, if_false, zE10, zE00, zOkN, Nat.reduceAdd, Nat.reduceMul, zcl_s, zif01, zbn_e, nIi, nI_clamp, nI_add, nI_1, pk_mul, zgi, zlt, zle, Int32.zero_add, Int32.add_zero, C0, C1, G0, G1, Nat.zero_add, Nat.add_zero, l2, l3, l4, l5, l6, l7, l8, l10, l11, l12, l20, l30, l48, l50, l60, l100, l120, l140, l152, l164, l176, l188, l200, l212, l224, l1604, l1880, l2000, l2008, l2016, l2024, l2032, l2040, l2048, l2210, l2240, l2270, l2300, l2330, l2390, l2450, l2510, l2570, l2590, l2620, l2650, l2660, l2700, T0, T1, Tm1, Tm99, Tm999, p_within, p_in, p_isCell, p_isOwner, p_isDay11, p_isDay12, p_isTap11, p_isTaker11, if_pos, if_neg, p_isTap12, p_isTaker12, p_isGone, zu1, zu2, zu3, nIe, Nat.reduceSub, show 16 + 6 * a + 1 = 17 + 6 * a by omega]
  by_cases hw : w 232 (1612 + 8 * a + k) = N
  rotate_left
  · rw [n2, ← n3, if_neg hw]
    exact next (fun c => hw c.1)
  rw [n2, ← n3, if_pos hw]
  by_cases hN0 : N = 0
  rotate_left
  · rw [if_neg hN0]
    exact this ⟨hw, fun q => absurd q hN0⟩
  rw [if_pos hN0]
  obtain ⟨ht, rfl⟩ := hN hN0
  obtain ⟨p, p', b, y1, y2, y3, y4, y5, y6, y7⟩ := hz (by rw [hw, hN0])
  rw [s_holds u (o := 16 + 6 * a) (show k < 8 by omega) ht (by rw [show 16 + 6 * a + 3 = 19 + 6 * a by omega, hu (19 + 6 * a) (by omega) (by omega)]; exact y4) (by rw [show 16 + 6 * a + 4 = 20 + 6 * a by omega, hu (20 + 6 * a) (by omega) (by omega)]; exact y5) y6 (by rw [show 16 + 6 * a + 5 = 21 + 6 * a by omega, hu (21 + 6 * a) (by omega) (by omega)]; exact y7) (qGd_E y3).1, zcl_s, qTw_c hu]
  by_cases tr : qVal (qTw w t) (qLs w a k) = true
  · rw [if_pos tr, if_neg (show ¬ (1 : Int32) = 0 by decide)]
    exact this ⟨hw, fun _ => tr⟩
  · rw [if_neg tr, if_pos (show (0 : Int32) = 0 from rfl)]
    exact next (fun c => tr (c.2 hN0))
