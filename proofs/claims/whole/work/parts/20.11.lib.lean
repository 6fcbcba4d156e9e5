theorem zu1 (w : zWd) {k a : Nat} (j i : Nat) (v : Int32) (h : a ≠ k) : zup w k j v a i = w a i := by rw [zup_ne _ _ _ _ _ h]
theorem zu2 (w : zWd) {k i j : Nat} (v : Int32) (h : i ≠ j) : zup w k j v k i = w k i := by rw [zup_self, qu_ne _ _ h]
theorem zu3 (w : zWd) (k j : Nat) (v : Int32) : zup w k j v k j = v := by rw [zup_self, qu_eq]
theorem qV1 (w : zWd) {k : Nat} (j : Nat) (v : Int32) (h : k < 1 ∨ 1 + 102 ≤ k) : qVw (zup w k j v) 1 = qVw w 1 := qVw_out w j v h
theorem qV2 (w : zWd) {o : Nat} (j : Nat) (v : Int32) (h : o < 102) : qVw (zup w (o + 1) j v) 1 = qupc (qVw w 1) o j v := qVw_in w j v h (by omega)
theorem qV3 (w : zWd) {k : Nat} (j : Nat) (v : Int32) (h : 1 ≤ k ∧ k < 103) : qVw (zup w k j v) 1 = qupc (qVw w 1) (k - 1) j v := qVw_in w j v (by omega) (by omega)
theorem zpE (w : zWd) {k a : Nat} (j : Nat) (v : Int32) (h : a ≠ k) : zup w k j v a = w a := zup_ne _ _ _ _ _ h
theorem nIe {a b : Nat} (ha : a < 2 ^ 31) (hb : b < 2 ^ 31) : (nI a = nI b) = (a = b) := propext (nI_eq ha hb)
theorem i0' : (nI 0 : Int32) = 0 := rfl
theorem i1' : (nI 1 : Int32) = 1 := rfl
/-- a place of both sides, a natural -/
theorem qSc {n : Nat} {w : zWd} (h : qInv n w) (b r : Nat) {o p m k M : Nat} (hb : qBk[b]? = some (o, p, m, k)) (hr : qRb[r]? = some (m, k, 0, (M : Int))) (ho : o < 102) {i : Nat} (hi : i < k) : ∃ K : Nat, K ≤ M ∧ w (1 + o) (p + i) = nI K ∧ w 232 (m + i) = nI K := by
  obtain ⟨K, h1, h2, h3, _⟩ := qNat (qRg_at (qR1 h) r hr hi) (Int.le_refl 0)
  exact ⟨K, by omega, by rw [qTo h b hb ho hi]; exact h1, h1⟩
theorem q_today {n : Nat} {w : zWd} (h : qInv n w) : ∃ K : Nat, K ≤ 400 ∧ w 1 0 = nI K ∧ w 232 0 = nI K := qSc h 0 0 rfl rfl (by decide) (i := 0) (by decide)
theorem q_taps {n : Nat} {w : zWd} (h : qInv n w) : ∃ K : Nat, K ≤ 12 ∧ w 2 1 = nI K ∧ w 232 1 = nI K := qSc h 1 1 rfl rfl (by decide) (i := 0) (by decide)
theorem q_orders {n : Nat} {w : zWd} (h : qInv n w) : ∃ K : Nat, K ≤ 10 ∧ w 14 0 = nI K ∧ w 232 2 = nI K := qSc h 2 2 rfl rfl (by decide) (i := 0) (by decide)
theorem q_takers {n : Nat} {w : zWd} (h : qInv n w) : ∃ K : Nat, K ≤ 8 ∧ w 82 0 = nI K ∧ w 232 3 = nI K := qSc h 3 3 rfl rfl (by decide) (i := 0) (by decide)
theorem q_sales {n : Nat} {w : zWd} (h : qInv n w) : ∃ K : Nat, K ≤ 30 ∧ w 82 8 = nI K ∧ w 232 4 = nI K := qSc h 4 4 rfl rfl (by decide) (i := 0) (by decide)
theorem q_looks {n : Nat} {w : zWd} (h : qInv n w) : ∃ K : Nat, K ≤ 60 ∧ w 94 0 = nI K ∧ w 232 5 = nI K := qSc h 5 5 rfl rfl (by decide) (i := 0) (by decide)
theorem q_taped {n : Nat} {w : zWd} (h : qInv n w) : ∃ K : Nat, K ≤ 120 ∧ w 12 0 = nI K ∧ w 232 6 = nI K := qSc h 6 6 rfl rfl (by decide) (i := 0) (by decide)
theorem q_pushes {n : Nat} {w : zWd} (h : qInv n w) : ∃ K : Nat, K ≤ 6 ∧ w 94 9 = nI K ∧ w 232 7 = nI K := qSc h 7 7 rfl rfl (by decide) (i := 0) (by decide)
/-- all but the takers' gallons -/
def qRk (c : Nat → Nat → Int32) (s p : Nat → Int32) : Prop := qTb c s ∧ qRg s ∧ qTp c s ∧ qDr c s ∧ qCh c s ∧ qPs p s ∧ qOr c s
theorem qRl.k {c : Nat → Nat → Int32} {s p : Nat → Int32} (h : qRl c s p) : qRk c s p := ⟨h.1, h.2.1, h.2.2.1, h.2.2.2.1, h.2.2.2.2.1, h.2.2.2.2.2.1, h.2.2.2.2.2.2.2⟩
theorem qRk.l {c : Nat → Nat → Int32} {s p : Nat → Int32} (h : qRk c s p) (g : qGl s) : qRl c s p := ⟨h.1, h.2.1, h.2.2.1, h.2.2.2.1, h.2.2.2.2.1, h.2.2.2.2.2.1, g, h.2.2.2.2.2.2⟩
/-- the pipes of a tap that there is -/
theorem qTp.p_ {c : Nat → Nat → Int32} {s : Nat → Int32} {j : Nat} {v : Int32} (h : qTp c s) (hj : (212 ≤ j ∧ ((j : Int) - 212 < (s 1).toInt)) ∨ (224 ≤ j ∧ ((j : Int) - 224 < (s 1).toInt))) (h12 : (s 1).toInt ≤ 12) : qTp c (upd s j v) := by
  intro t ht
  have h1 := h t ht
  rw [qu_ne s v (show 1 ≠ j by omega), qu_ne s v (show 140 + t ≠ j by omega), qu_ne s v (show 152 + t ≠ j by omega), qu_ne s v (show 164 + t ≠ j by omega), qu_ne s v (show 188 + t ≠ j by omega)]
  refine ⟨h1.1, fun g => ?_⟩
  rw [qu_ne s v (show 212 + t ≠ j by omega), qu_ne s v (show 224 + t ≠ j by omega)]
  exact h1.2 g
theorem qRk_put {c : Nat → Nat → Int32} {s p : Nat → Int32} {j o : Nat} {v : Int32} (h : qRk c s p) (b : Nat) {p0 m n i k lo hi : Nat} {a1 a2 : Int} (hb : qBk[b]? = some (o, p0, m, n)) (hi9 : i < n) (hj : j = p0 + i) (hk : k = m + i)
    (hk2 : 3 ≤ k ∧ (k < 140 ∨ 236 ≤ k ∨ (212 ≤ k ∧ k < 224 ∧ (k : Int) - 212 < (s 1).toInt) ∨ (224 ≤ k ∧ k < 236 ∧ (k : Int) - 224 < (s 1).toInt)) ∧ (k < 240 ∨ 1880 ≤ k) ∧ (k < 2570 ∨ 2620 ≤ k) ∧ k < 2700) (ho : o ≠ 3 ∧ o ≠ 4 ∧ o ≠ 5 ∧ o ≠ 98 ∧ (o < 15 ∨ 81 ≤ o) ∧ (o ≠ 1 ∨ j ≠ 2) ∧ (o ≠ 93 ∨ (j ≠ 5 ∧ j ≠ 7)))
    (hf : qFg lo hi a1 a2 = true) (h1 : lo ≤ k) (h2 : k < hi) (hv : a1 ≤ v.toInt ∧ v.toInt ≤ a2) : qRk (qupc c o j v) (upd s k v) p := by
  obtain ⟨hT, hG, hTp, hD, hC, hP, hO⟩ := h
  have h10 := (qRg_at hG 2 rfl (i := 0) (by decide)).2
  have h12 := (qRg_at hG 1 rfl (i := 0) (by decide)).2
  refine ⟨qTb_put hT b hb hi9 hj hk v, qRg_put hG hf h1 h2 hv, ?_, (hD.s_ (by omega)).c_ (by omega), (hC.s_ (by omega)).c_ (by omega), hP.s_ (by omega), ?_⟩
  · by_cases e : (212 ≤ k ∧ k < 236)
    · exact (hTp.p_ (by omega) h12).c_ (by omega)
    · exact (hTp.s_ (by omega)).c_ (by omega)
  · refine (hO.s_ h10 (by omega)).c_ ?_ (by omega)
    rw [qu_ne s v (show 2 ≠ k by omega)]
    exact h10
/-- a step of a loop leads on, or answers -/
theorem zlp_to {σ α : Type} {F : (σ → Option α) → σ → Option α} {P : Nat → σ → Prop} {X : Option α} {n N : Nat} (hN : n < N) (h : ∀ i, i ≤ n → ∀ q, P i q → ∀ k, (i < n → ∀ q', P (i + 1) q' → k q' = X) → F k q = X) {q : σ} (h0 : P 0 q) : zlp F N q = X := by
  have key : ∀ m i N q, i + m = n → m < N → P i q → zlp F N q = X := by
    intro m
    induction m with
    | zero =>
      intro i N q hi hN hp
      match N, hN with
      | N + 1, _ => exact h i (by omega) q hp _ (fun g => absurd g (by omega))
    | succ m ih =>
      intro i N q hi hN hp
      match N, hN with
      | N + 1, hN => exact h i (by omega) q hp _ (fun g q' hq => ih (i + 1) N q' (by omega) (by omega) hq)
  exact key n 0 N q (by omega) hN h0
/-- a call of both: what each comes to, and how they stay side by side -/
theorem qBoth_mk {n : Nat} {w : zWd} {f g : zWd → Option (Int32 × zWd)} (h : qInv n w) {r : Int32} {w1 w2 : zWd} (h1 : f w = some (r, w1)) (h2 : g w1 = some (r, w2)) (hf : qFm w w2) (hR : qRk (qVw w2 1) (w2 232) (w 205)) (hg : qGl (w2 232)) (ht : (w 232 0).toInt ≤ (w2 232 0).toInt) : qBoth n w f g := ⟨r, w1, w2, h1, h2, h.of (Nat.le_succ n) hf (hR.l hg) ht⟩
