/-! the World is copied whole: what of it counts -/
def qAg (d s : Nat) (w0 w : zWd) (D : Nat → Nat → Prop) : Prop := (∀ a, (a < d ∨ d + 102 ≤ a) → w a = w0 a) ∧ ∀ o i, D o i → w (d + o) i = w0 (s + o) i
theorem qAg.up {d s : Nat} {w0 w : zWd} {D : Nat → Nat → Prop} (h : qAg d s w0 w D) (hs : s + 102 ≤ d ∨ d + 102 ≤ s) {o : Nat} (ho : o < 102) (j : Nat) : qAg d s w0 (zup w (d + o) j (w (s + o) j)) (fun o' i => D o' i ∨ (o' = o ∧ i = j)) := by
  refine ⟨fun a ha => ?_, fun o' i hD => ?_⟩
  · rw [zup_ne _ _ _ _ _ (by omega)]; exact h.1 a ha
  · by_cases e : o' = o ∧ i = j
    · rw [e.1, e.2, zu3, h.1 (s + o) (by omega)]
    · rcases hD with hD | hD
      · rw [← h.2 o' i hD]
        unfold zup
        by_cases e2 : d + o' = d + o
        · rw [if_pos e2, qu_ne _ _ (by omega)]
        · rw [if_neg e2]
      · exact absurd hD e
theorem qAg.cp {d s : Nat} {w0 w : zWd} {D : Nat → Nat → Prop} (h : qAg d s w0 w D) (hs : s + 102 ≤ d ∨ d + 102 ≤ s) {o : Nat} (ho : o < 102) (n : Nat) : qAg d s w0 (zcp w (s + o) 0 (d + o) 0 n) (fun o' i => D o' i ∨ (o' = o ∧ i < n)) := by
  refine ⟨fun a ha => ?_, fun o' i hD => ?_⟩
  · rw [zcp_ne _ _ _ _ _ _ _ (by omega)]; exact h.1 a ha
  · by_cases e : o' = o ∧ i < n
    · rw [e.1, zcp_self]
      unfold va_cpy
      rw [if_pos (by omega), h.1 (s + o) (by omega)]
      congr 1; omega
    · rcases hD with hD | hD
      · rw [← h.2 o' i hD]
        by_cases e2 : o' = o
        · subst e2
          rw [zcp_self]
          unfold va_cpy
          rw [if_neg (by omega)]
        · rw [zcp_ne _ _ _ _ _ _ _ (by omega)]
      · exact absurd hD e
theorem qAg.mono {d s : Nat} {w0 w : zWd} {D E : Nat → Nat → Prop} (h : qAg d s w0 w D) (hE : ∀ o i, E o i → D o i) : qAg d s w0 w E := ⟨h.1, fun o i he => h.2 o i (hE o i he)⟩
/-- places by a list: cell, first place, how many -/
def qDl (L : List (Nat × Nat × Nat)) (D : Nat → Nat → Prop) (o i : Nat) : Prop := (∃ q ∈ L, o = q.1 ∧ q.2.1 ≤ i ∧ i < q.2.1 + q.2.2) ∨ D o i
theorem qAg.upL {d s : Nat} {w0 w : zWd} {L : List (Nat × Nat × Nat)} {D : Nat → Nat → Prop} (h : qAg d s w0 w (qDl L D)) (hs : s + 102 ≤ d ∨ d + 102 ≤ s) {o : Nat} (ho : o < 102) (j : Nat) : qAg d s w0 (zup w (d + o) j (w (s + o) j)) (qDl ((o, j, 1) :: L) D) := by
  refine (h.up hs ho j).mono (fun o' i hD => ?_)
  rcases hD with ⟨q, hq, g⟩ | hD
  · rcases List.mem_cons.mp hq with rfl | hq
    · simp only at g; exact Or.inr (by omega)
    · exact Or.inl (Or.inl ⟨q, hq, g⟩)
  · exact Or.inl (Or.inr hD)
theorem qAg.cpL {d s : Nat} {w0 w : zWd} {L : List (Nat × Nat × Nat)} {D : Nat → Nat → Prop} (h : qAg d s w0 w (qDl L D)) (hs : s + 102 ≤ d ∨ d + 102 ≤ s) {o : Nat} (ho : o < 102) (n : Nat) : qAg d s w0 (zcp w (s + o) 0 (d + o) 0 n) (qDl ((o, 0, n) :: L) D) := by
  refine (h.cp hs ho n).mono (fun o' i hD => ?_)
  rcases hD with ⟨q, hq, g⟩ | hD
  · rcases List.mem_cons.mp hq with rfl | hq
    · simp only at g; exact Or.inr (by omega)
    · exact Or.inl (Or.inl ⟨q, hq, g⟩)
  · exact Or.inl (Or.inr hD)
theorem zk6 {α : Type} (X : Option α) : zgd (zcok (0 : Int32) (0 : Int32) (6 : Int32) 6 6) X = X := zgd_t (by decide) X
theorem cl6 : (6 : Int32).toNatClampNeg = 6 := by decide
theorem zk8 {α : Type} (X : Option α) : zgd (zcok (0 : Int32) (0 : Int32) (8 : Int32) 8 8) X = X := zgd_t (by decide) X
theorem cl8 : (8 : Int32).toNatClampNeg = 8 := by decide
theorem zk12 {α : Type} (X : Option α) : zgd (zcok (0 : Int32) (0 : Int32) (12 : Int32) 12 12) X = X := zgd_t (by decide) X
theorem cl12 : (12 : Int32).toNatClampNeg = 12 := by decide
theorem zk30 {α : Type} (X : Option α) : zgd (zcok (0 : Int32) (0 : Int32) (30 : Int32) 30 30) X = X := zgd_t (by decide) X
theorem cl30 : (30 : Int32).toNatClampNeg = 30 := by decide
theorem zk60 {α : Type} (X : Option α) : zgd (zcok (0 : Int32) (0 : Int32) (60 : Int32) 60 60) X = X := zgd_t (by decide) X
theorem cl60 : (60 : Int32).toNatClampNeg = 60 := by decide
theorem zk120 {α : Type} (X : Option α) : zgd (zcok (0 : Int32) (0 : Int32) (120 : Int32) 120 120) X = X := zgd_t (by decide) X
theorem cl120 : (120 : Int32).toNatClampNeg = 120 := by decide
theorem zk160 {α : Type} (X : Option α) : zgd (zcok (0 : Int32) (0 : Int32) (160 : Int32) 160 160) X = X := zgd_t (by decide) X
theorem cl160 : (160 : Int32).toNatClampNeg = 160 := by decide
def qL0 : List (Nat × Nat × Nat) := [(8, 0, 12), (7, 0, 12), (6, 0, 12), (5, 0, 12), (4, 0, 12), (3, 0, 12), (1, 2, 1), (1, 1, 1), (2, 0, 120)]
theorem cp0 {d s : Nat} {w0 w : zWd} {L : List (Nat × Nat × Nat)} {D : Nat → Nat → Prop} (h : qAg d s w0 w (qDl L D)) (hs : s + 102 ≤ d ∨ d + 102 ≤ s) : ∃ w2, mX0_copyFrom (d + 1) (s + 1) w = some ((), w2) ∧ qAg d s w0 w2 (qDl (qL0 ++ L) D) := by
  refine ⟨_, ?_, (((((((((h.cpL hs (o := 2) (by omega) 120).upL hs (o := 1) (by omega) 1).upL hs (o := 1) (by omega) 2).cpL hs (o := 3) (by omega) 12).cpL hs (o := 4) (by omega) 12).cpL hs (o := 5) (by omega) 12).cpL hs (o := 6) (by omega) 12).cpL hs (o := 7) (by omega) 12).cpL hs (o := 8) (by omega) 12)⟩
  unfold mX0_copyFrom
  simp only [zbn_e, C0, zk6, cl6, zk8, cl8, zk12, cl12, zk30, cl30, zk60, cl60, zk120, cl120, zk160, cl160, Nat.add_assoc, Nat.reduceAdd]
def qL9 : List (Nat × Nat × Nat) := [(12, 0, 120), (11, 0, 1)]
theorem cp9 {d s : Nat} {w0 w : zWd} {L : List (Nat × Nat × Nat)} {D : Nat → Nat → Prop} (h : qAg d s w0 w (qDl L D)) (hs : s + 102 ≤ d ∨ d + 102 ≤ s) : ∃ w2, mX9_copyFrom (d + 11) (s + 11) w = some ((), w2) ∧ qAg d s w0 w2 (qDl (qL9 ++ L) D) := by
  refine ⟨_, ?_, ((h.upL hs (o := 11) (by omega) 0).cpL hs (o := 12) (by omega) 120)⟩
  unfold mX9_copyFrom
  simp only [zbn_e, C0, zk6, cl6, zk8, cl8, zk12, cl12, zk30, cl30, zk60, cl60, zk120, cl120, zk160, cl160, Nat.add_assoc, Nat.reduceAdd]
def qL8 : List (Nat × Nat × Nat) := [(92, 0, 30), (91, 0, 30), (90, 0, 30), (89, 0, 30), (81, 8, 1), (88, 0, 160), (87, 0, 8), (86, 0, 8), (85, 0, 8), (84, 0, 8), (83, 0, 8), (82, 0, 8), (81, 0, 1)]
theorem cp8 {d s : Nat} {w0 w : zWd} {L : List (Nat × Nat × Nat)} {D : Nat → Nat → Prop} (h : qAg d s w0 w (qDl L D)) (hs : s + 102 ≤ d ∨ d + 102 ≤ s) : ∃ w2, mX8_copyFrom (d + 81) (s + 81) w = some ((), w2) ∧ qAg d s w0 w2 (qDl (qL8 ++ L) D) := by
  refine ⟨_, ?_, (((((((((((((h.upL hs (o := 81) (by omega) 0).cpL hs (o := 82) (by omega) 8).cpL hs (o := 83) (by omega) 8).cpL hs (o := 84) (by omega) 8).cpL hs (o := 85) (by omega) 8).cpL hs (o := 86) (by omega) 8).cpL hs (o := 87) (by omega) 8).cpL hs (o := 88) (by omega) 160).upL hs (o := 81) (by omega) 8).cpL hs (o := 89) (by omega) 30).cpL hs (o := 90) (by omega) 30).cpL hs (o := 91) (by omega) 30).cpL hs (o := 92) (by omega) 30)⟩
  unfold mX8_copyFrom
  simp only [zbn_e, C0, zk6, cl6, zk8, cl8, zk12, cl12, zk30, cl30, zk60, cl60, zk120, cl120, zk160, cl160, Nat.add_assoc, Nat.reduceAdd]
def qL6 : List (Nat × Nat × Nat) := [(101, 0, 6), (100, 0, 6), (93, 9, 1), (99, 0, 30), (93, 7, 1), (98, 0, 12), (93, 5, 1), (97, 0, 60), (96, 0, 60), (95, 0, 60), (94, 0, 60), (93, 0, 1)]
theorem cp6 {d s : Nat} {w0 w : zWd} {L : List (Nat × Nat × Nat)} {D : Nat → Nat → Prop} (h : qAg d s w0 w (qDl L D)) (hs : s + 102 ≤ d ∨ d + 102 ≤ s) : ∃ w2, mX6_copyFrom (d + 93) (s + 93) w = some ((), w2) ∧ qAg d s w0 w2 (qDl (qL6 ++ L) D) := by
  refine ⟨_, ?_, ((((((((((((h.upL hs (o := 93) (by omega) 0).cpL hs (o := 94) (by omega) 60).cpL hs (o := 95) (by omega) 60).cpL hs (o := 96) (by omega) 60).cpL hs (o := 97) (by omega) 60).upL hs (o := 93) (by omega) 5).cpL hs (o := 98) (by omega) 12).upL hs (o := 93) (by omega) 7).cpL hs (o := 99) (by omega) 30).upL hs (o := 93) (by omega) 9).cpL hs (o := 100) (by omega) 6).cpL hs (o := 101) (by omega) 6)⟩
  unfold mX6_copyFrom
  simp only [zbn_e, C0, zk6, cl6, zk8, cl8, zk12, cl12, zk30, cl30, zk60, cl60, zk120, cl120, zk160, cl160, Nat.add_assoc, Nat.reduceAdd]
def qL2 (u : Nat) : List (Nat × Nat × Nat) := [((u + 5), 0, 120), (u, 6, 1), ((u + 4), 0, 8), ((u + 3), 0, 8), ((u + 2), 0, 8), ((u + 1), 0, 8), (u, 1, 1), (u, 0, 1)]
theorem cp2 {d s : Nat} {w0 w : zWd} {L : List (Nat × Nat × Nat)} {D : Nat → Nat → Prop} (h : qAg d s w0 w (qDl L D)) (hs : s + 102 ≤ d ∨ d + 102 ≤ s) {u : Nat} (hu : u + 5 < 102) : ∃ w2, mX2_copyFrom (d + u) (s + u) w = some ((), w2) ∧ qAg d s w0 w2 (qDl ((qL2 u) ++ L) D) := by
  refine ⟨_, ?_, ((((((((h.upL hs (o := u) (by omega) 0).upL hs (o := u) (by omega) 1).cpL hs (o := (u + 1)) (by omega) 8).cpL hs (o := (u + 2)) (by omega) 8).cpL hs (o := (u + 3)) (by omega) 8).cpL hs (o := (u + 4)) (by omega) 8).upL hs (o := u) (by omega) 6).cpL hs (o := (u + 5)) (by omega) 120)⟩
  unfold mX2_copyFrom
  simp only [zbn_e, C0, zk6, cl6, zk8, cl8, zk12, cl12, zk30, cl30, zk60, cl60, zk120, cl120, zk160, cl160, Nat.add_assoc, Nat.reduceAdd]
/-- a loop that keeps P, and comes to an end -/
theorem zlp_ex {σ α : Type} {F : (σ → Option α) → σ → Option α} {P : Nat → σ → Prop} {R : Option α → Prop} {n N : Nat} (hN : n < N) (h : ∀ i, i < n → ∀ q, P i q → ∃ q', P (i + 1) q' ∧ ∀ k, F k q = k q') (he : ∀ q, P n q → ∃ X, R X ∧ ∀ k, F k q = X) {q : σ} (h0 : P 0 q) : ∃ X, R X ∧ zlp F N q = X := by
  have key : ∀ m i N q, i + m = n → m < N → P i q → ∃ X, R X ∧ zlp F N q = X := by
    intro m
    induction m with
    | zero =>
      intro i N q hi hN hp
      have : i = n := by omega
      subst this
      obtain ⟨X, h1, h2⟩ := he q hp
      match N, hN with
      | N + 1, _ => exact ⟨X, h1, h2 _⟩
    | succ m ih =>
      intro i N q hi hN hp
      obtain ⟨q', h1, h2⟩ := h i (by omega) q hp
      match N, hN with
      | N + 1, hN =>
        obtain ⟨X, h3, h4⟩ := ih (i + 1) N q' (by omega) (by omega) h1
        exact ⟨X, h3, (h2 _).trans h4⟩
  exact key n 0 N q (by omega) hN h0
/-- the orders' places -/
def qDo (S o i : Nat) : Prop := ∃ a, a < S ∧ ∃ q ∈ qL2 (15 + 6 * a), o = q.1 ∧ q.2.1 ≤ i ∧ i < q.2.1 + q.2.2
theorem cp3 {d s : Nat} {w0 w : zWd} {L : List (Nat × Nat × Nat)} (h : qAg d s w0 w (qDl L (fun _ _ => False))) (hs : s + 102 ≤ d ∨ d + 102 ≤ s) {S : Nat} (hS : S ≤ 10) (e : w0 (s + 13) 0 = nI S) : ∃ w2, mX3_copyFrom (d + 13) (s + 13) w = some ((), w2) ∧ qAg d s w0 w2 (qDl ((13, 0, 1) :: L) (qDo S)) := by
  have h1 := h.upL hs (o := 13) (by omega) 0
  have e1 : w (s + 13) 0 = nI S := by rw [h.1 (s + 13) (by omega)]; exact e
  unfold mX3_copyFrom mX3_copyFrom_10
  rw [zbn_e]
  have key := zlp_ex (F := fun k q => mX3_copyFrom_10b (d + 13) (s + 13) k q.1 q.2) (n := S) (N := zFU) (q := ((0 : Int32), zup w (d + 13) 0 (w (s + 13) 0)))
    (P := fun k q => q.1 = nI k ∧ q.2 (d + 13) 0 = nI S ∧ qAg d s w0 q.2 (qDl ((13, 0, 1) :: L) (qDo k)))
    (R := fun X => ∃ w2, X = some ((), w2) ∧ qAg d s w0 w2 (qDl ((13, 0, 1) :: L) (qDo S))) (by unfold zFU; omega) ?_ ?_ ?_
  · obtain ⟨X, ⟨w2, g1, g2⟩, g3⟩ := key
    exact ⟨w2, g3.trans g1, g2⟩
  · rintro k hk ⟨q1, q⟩ ⟨g1, g2, g3⟩
    simp only at g1 g2 g3
    subst g1
    obtain ⟨w2, f1, f2⟩ := cp2 g3 hs (u := 15 + 6 * k) (by omega)
    refine ⟨(nI k + 1, w2), ⟨(nI_succ k).symm, ?_, f2.mono (fun o i hD => ?_)⟩, fun K => ?_⟩
    · have := f2.2 13 0 (Or.inl ⟨(13, 0, 1), List.mem_append_right _ (List.mem_cons_self ..), rfl, by decide, by decide⟩)
      exact this.trans e
    · rcases hD with ⟨q, hq, hD⟩ | ⟨a, ha, hD⟩
      · exact Or.inl ⟨q, List.mem_append_right _ hq, hD⟩
      · by_cases ea : a = k
        · subst ea
          obtain ⟨q, hq, hD⟩ := hD
          exact Or.inl ⟨q, List.mem_append_left _ hq, hD⟩
        · exact Or.inr ⟨a, by omega, hD⟩
    · simp only [mX3_copyFrom_10b]
      simp (disch := (first | omega | (simp (disch := omega) only [zu1, zu2, zu3, nIi, g2, T11, l11]; omega))) only [if_true, if_false, zE10, zE00, zOkN, Nat.reduceAdd, Nat.reduceMul, zcl_s, zif01, zbn_e, nIi, nI_clamp, nI_add, nI_1, pk_mul, zgi, zlt, zle, Int32.zero_add, Int32.add_zero, C0, C1, G0, G1, Nat.zero_add, Nat.add_zero, l2, l3, l4, l5, l6, l7, l8, l10, l11, l12, l20, l30, l48, l50, l60, l100, l120, l140, l152, l164, l176, l188, l200, l212, l224, l1604, l1880, l2000, l2008, l2016, l2024, l2032, l2040, l2048, l2210, l2240, l2270, l2300, l2330, l2390, l2450, l2510, l2570, l2590, l2620, l2650, l2660, l2700, T0, T1, Tm1, Tm99, Tm999, p_within, p_in, p_isCell, p_isOwner, p_isDay11, p_isDay12, p_isTap11, p_isTaker11, if_pos, if_neg, p_isTap12, p_isTaker12, p_isGone, zu1, zu2, zu3, nIe, Nat.reduceSub, g2, T11, l11]
      rw [show d + 13 + 2 + 6 * k = d + (15 + 6 * k) by omega, show s + 13 + 2 + 6 * k = s + (15 + 6 * k) by omega, f1]
      rfl
  · rintro ⟨q1, q⟩ ⟨g1, g2, g3⟩
    simp only at g1 g2 g3
    subst g1
    refine ⟨some ((), q), ⟨q, rfl, g3⟩, fun K => ?_⟩
    simp only [mX3_copyFrom_10b, mX3_copyFrom_48]
    simp (disch := (first | omega | (simp (disch := omega) only [zu1, zu2, zu3, nIi, g2]; omega))) only [if_true, if_false, zE10, zE00, zOkN, Nat.reduceAdd, Nat.reduceMul, zcl_s, zif01, zbn_e, nIi, nI_clamp, nI_add, nI_1, pk_mul, zgi, zlt, zle, Int32.zero_add, Int32.add_zero, C0, C1, G0, G1, Nat.zero_add, Nat.add_zero, l2, l3, l4, l5, l6, l7, l8, l10, l11, l12, l20, l30, l48, l50, l60, l100, l120, l140, l152, l164, l176, l188, l200, l212, l224, l1604, l1880, l2000, l2008, l2016, l2024, l2032, l2040, l2048, l2210, l2240, l2270, l2300, l2330, l2390, l2450, l2510, l2570, l2590, l2620, l2650, l2660, l2700, T0, T1, Tm1, Tm99, Tm999, p_within, p_in, p_isCell, p_isOwner, p_isDay11, p_isDay12, p_isTap11, p_isTaker11, if_pos, if_neg, p_isTap12, p_isTaker12, p_isGone, zu1, zu2, zu3, nIe, Nat.reduceSub, g2]
  · refine ⟨rfl, ?_, h1.mono (fun o i hD => ?_)⟩
    · show zup w (d + 13) 0 (w (s + 13) 0) (d + 13) 0 = nI S
      rw [zu3]; exact e1
    · rcases hD with hD | ⟨a, ha, _⟩
      · exact Or.inl hD
      · omega
/-- the places of a World that count -/
def qLw : List (Nat × Nat × Nat) := qL6 ++ (qL8 ++ ((13, 0, 1) :: (qL9 ++ (qL0 ++ [(0, 0, 1)]))))
theorem cp10 {d s : Nat} (w : zWd) (hs : s + 102 ≤ d ∨ d + 102 ≤ s) {S : Nat} (hS : S ≤ 10) (e : w (s + 13) 0 = nI S) : ∃ w2, mX10_copyFrom d s w = some ((), w2) ∧ qAg d s w w2 (qDl qLw (qDo S)) := by
  have h0 : qAg d s w w (qDl [] (fun _ _ => False)) := ⟨fun _ _ => rfl, fun _ _ q => by rcases q with ⟨_, q, _⟩ | q; cases q; exact q.elim⟩
  have h1 := h0.upL hs (o := 0) (by omega) 0
  obtain ⟨w2, f2, h2⟩ := cp0 h1 hs
  obtain ⟨w3, f3, h3⟩ := cp9 h2 hs
  obtain ⟨w4, f4, h4⟩ := cp3 h3 hs hS e
  obtain ⟨w5, f5, h5⟩ := cp8 h4 hs
  obtain ⟨w6, f6, h6⟩ := cp6 h5 hs
  simp only [Nat.add_zero] at f2
  refine ⟨w6, ?_, h6⟩
  unfold mX10_copyFrom
  rw [zbn_e, f2, zcl_s, f3, zcl_s, f4, zcl_s, f5, zcl_s, f6]
  rfl
