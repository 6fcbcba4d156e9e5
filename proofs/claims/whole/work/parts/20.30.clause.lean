/-- a loop that keeps P, and may end at any turn -/
theorem zlp_ex2 {σ α : Type} {F : (σ → Option α) → σ → Option α} {P : Nat → σ → Prop} {R : Option α → Prop} {n N : Nat} (hN : n < N) (h : ∀ i, i ≤ n → ∀ q, P i q → (∃ X, R X ∧ ∀ k, F k q = X) ∨ (i < n ∧ ∃ q', P (i + 1) q' ∧ ∀ k, F k q = k q')) {q : σ} (h0 : P 0 q) : R (zlp F N q) := by
  have key : ∀ m i N q, i + m = n → m < N → P i q → R (zlp F N q) := by
    intro m
    induction m with
    | zero =>
      intro i N q hi hN hp
      obtain ⟨N, rfl⟩ : ∃ m, N = m + 1 := ⟨N - 1, by omega⟩
      rcases h i (by omega) q hp with ⟨X, h1, h2⟩ | ⟨h1, _⟩
      · rw [zlp_1, h2]; exact h1
      · omega
    | succ m ih =>
      intro i N q hi hN hp
      obtain ⟨N, rfl⟩ : ∃ m, N = m + 1 := ⟨N - 1, by omega⟩
      rcases h i (by omega) q hp with ⟨X, h1, h2⟩ | ⟨h1, q', h2, h3⟩
      · rw [zlp_1, h2]; exact h1
      · rw [zlp_1, h3]; exact ih (i + 1) N q' (by omega) (by omega) h2
  exact key n 0 N q (by omega) hN h0
/-- .. in the most general form -/
theorem zlp_R {σ α : Type} {F : (σ → Option α) → σ → Option α} {P : Nat → σ → Prop} {R : Option α → Prop} {n N : Nat} (hN : n < N) (h : ∀ i, i ≤ n → ∀ q, P i q → ∀ k, (i < n → ∀ q', P (i + 1) q' → R (k q')) → R (F k q)) {q : σ} (h0 : P 0 q) : R (zlp F N q) := by
  have key : ∀ m i N q, i + m = n → m < N → P i q → R (zlp F N q) := by
    intro m
    induction m with
    | zero =>
      intro i N q hi hN hp
      obtain ⟨N, rfl⟩ : ∃ m, N = m + 1 := ⟨N - 1, by omega⟩
      rw [zlp_1]
      exact h i (by omega) q hp _ (fun g => absurd g (by omega))
    | succ m ih =>
      intro i N q hi hN hp
      obtain ⟨N, rfl⟩ : ∃ m, N = m + 1 := ⟨N - 1, by omega⟩
      rw [zlp_1]
      exact h i (by omega) q hp _ (fun g q' hq => ih (i + 1) N q' (by omega) (by omega) hq)
  exact key n 0 N q (by omega) hN h0
/-- what is told of a taker -/
theorem told_t (w : zWd) {t : Nat} (ht : t < 8) : qTold w (nI t) (w 232 (2000 + t)) (w 232 (2008 + t)) (w 232 (2016 + t)) (w 232 (2024 + t)) (w 232 (2032 + t)) := by
  intro u h h14 x
  have e := h.1 232 (by decide)
  unfold mX12_told mX12_told_61
  rw [h14, if_neg (fun q => absurd (congrArg Int32.toInt q) (by rw [nIi (by omega), Tm1]; omega))]
  by_cases c1 : x = 107
  · simp only [if_pos c1]; simp (disch := (first | omega | (simp (disch := omega) only [zu1, zu2, zu3, nIi, e]; omega))) only [if_true, if_false, zE10, zE00, zOkN, Nat.reduceAdd, Nat.reduceMul, zcl_s, zif01, zbn_e, nIi, nI_clamp, nI_add, nI_1, pk_mul, zgi, zlt, zle, Int32.zero_add, Int32.add_zero, C0, C1, G0, G1, Nat.zero_add, Nat.add_zero, l2, l3, l4, l5, l6, l7, l8, l10, l11, l12, l20, l30, l48, l50, l60, l100, l120, l140, l152, l164, l176, l188, l200, l212, l224, l1604, l1880, l2000, l2008, l2016, l2024, l2032, l2040, l2048, l2210, l2240, l2270, l2300, l2330, l2390, l2450, l2510, l2570, l2590, l2620, l2650, l2660, l2700, T0, T1, Tm1, Tm99, Tm999, p_within, p_in, p_isCell, p_isOwner, p_isDay11, p_isDay12, p_isTap11, p_isTaker11, if_pos, if_neg, p_isTap12, p_isTaker12, p_isGone, zu1, zu2, zu3, nIe, Nat.reduceSub, e]
  simp only [if_neg c1]
  by_cases c2 : x = 116
  · simp only [if_pos c2]; simp (disch := (first | omega | (simp (disch := omega) only [zu1, zu2, zu3, nIi, e]; omega))) only [if_true, if_false, zE10, zE00, zOkN, Nat.reduceAdd, Nat.reduceMul, zcl_s, zif01, zbn_e, nIi, nI_clamp, nI_add, nI_1, pk_mul, zgi, zlt, zle, Int32.zero_add, Int32.add_zero, C0, C1, G0, G1, Nat.zero_add, Nat.add_zero, l2, l3, l4, l5, l6, l7, l8, l10, l11, l12, l20, l30, l48, l50, l60, l100, l120, l140, l152, l164, l176, l188, l200, l212, l224, l1604, l1880, l2000, l2008, l2016, l2024, l2032, l2040, l2048, l2210, l2240, l2270, l2300, l2330, l2390, l2450, l2510, l2570, l2590, l2620, l2650, l2660, l2700, T0, T1, Tm1, Tm99, Tm999, p_within, p_in, p_isCell, p_isOwner, p_isDay11, p_isDay12, p_isTap11, p_isTaker11, if_pos, if_neg, p_isTap12, p_isTaker12, p_isGone, zu1, zu2, zu3, nIe, Nat.reduceSub, e]
  simp only [if_neg c2]
  by_cases c3 : x = 110
  · simp only [if_pos c3]; simp (disch := (first | omega | (simp (disch := omega) only [zu1, zu2, zu3, nIi, e]; omega))) only [if_true, if_false, zE10, zE00, zOkN, Nat.reduceAdd, Nat.reduceMul, zcl_s, zif01, zbn_e, nIi, nI_clamp, nI_add, nI_1, pk_mul, zgi, zlt, zle, Int32.zero_add, Int32.add_zero, C0, C1, G0, G1, Nat.zero_add, Nat.add_zero, l2, l3, l4, l5, l6, l7, l8, l10, l11, l12, l20, l30, l48, l50, l60, l100, l120, l140, l152, l164, l176, l188, l200, l212, l224, l1604, l1880, l2000, l2008, l2016, l2024, l2032, l2040, l2048, l2210, l2240, l2270, l2300, l2330, l2390, l2450, l2510, l2570, l2590, l2620, l2650, l2660, l2700, T0, T1, Tm1, Tm99, Tm999, p_within, p_in, p_isCell, p_isOwner, p_isDay11, p_isDay12, p_isTap11, p_isTaker11, if_pos, if_neg, p_isTap12, p_isTaker12, p_isGone, zu1, zu2, zu3, nIe, Nat.reduceSub, e]
  simp only [if_neg c3]
  by_cases c4 : x = 115
  · simp only [if_pos c4]; simp (disch := (first | omega | (simp (disch := omega) only [zu1, zu2, zu3, nIi, e]; omega))) only [if_true, if_false, zE10, zE00, zOkN, Nat.reduceAdd, Nat.reduceMul, zcl_s, zif01, zbn_e, nIi, nI_clamp, nI_add, nI_1, pk_mul, zgi, zlt, zle, Int32.zero_add, Int32.add_zero, C0, C1, G0, G1, Nat.zero_add, Nat.add_zero, l2, l3, l4, l5, l6, l7, l8, l10, l11, l12, l20, l30, l48, l50, l60, l100, l120, l140, l152, l164, l176, l188, l200, l212, l224, l1604, l1880, l2000, l2008, l2016, l2024, l2032, l2040, l2048, l2210, l2240, l2270, l2300, l2330, l2390, l2450, l2510, l2570, l2590, l2620, l2650, l2660, l2700, T0, T1, Tm1, Tm99, Tm999, p_within, p_in, p_isCell, p_isOwner, p_isDay11, p_isDay12, p_isTap11, p_isTaker11, if_pos, if_neg, p_isTap12, p_isTaker12, p_isGone, zu1, zu2, zu3, nIe, Nat.reduceSub, e]
  simp only [if_neg c4]; simp (disch := (first | omega | (simp (disch := omega) only [zu1, zu2, zu3, nIi, e]; omega))) only [if_true, if_false, zE10, zE00, zOkN, Nat.reduceAdd, Nat.reduceMul, zcl_s, zif01, zbn_e, nIi, nI_clamp, nI_add, nI_1, pk_mul, zgi, zlt, zle, Int32.zero_add, Int32.add_zero, C0, C1, G0, G1, Nat.zero_add, Nat.add_zero, l2, l3, l4, l5, l6, l7, l8, l10, l11, l12, l20, l30, l48, l50, l60, l100, l120, l140, l152, l164, l176, l188, l200, l212, l224, l1604, l1880, l2000, l2008, l2016, l2024, l2032, l2040, l2048, l2210, l2240, l2270, l2300, l2330, l2390, l2450, l2510, l2570, l2590, l2620, l2650, l2660, l2700, T0, T1, Tm1, Tm99, Tm999, p_within, p_in, p_isCell, p_isOwner, p_isDay11, p_isDay12, p_isTap11, p_isTaker11, if_pos, if_neg, p_isTap12, p_isTaker12, p_isGone, zu1, zu2, zu3, nIe, Nat.reduceSub, e]
/-- .. of nobody -/
theorem told_0 (w : zWd) : qTold w (-1) 0 0 0 0 0 := by
  intro u h h14 x
  unfold mX12_told
  rw [h14, if_pos rfl]
  simp only [ite_self]
/-- the steps of clause k of order a -/
def qLs (w : zWd) (a k : Nat) : List Int32 := (List.range ((w (20 + 6 * a) k).toNatClampNeg - (w (19 + 6 * a) k).toNatClampNeg)).map (fun i => w (21 + 6 * a) ((w (19 + 6 * a) k).toNatClampNeg + i))
theorem qLs_of {w : zWd} {a k b : Nat} {l : List Int32} (e1 : w (19 + 6 * a) k = nI b) (e2 : w (20 + 6 * a) k = nI (b + l.length)) (hb : b + l.length ≤ 120) (hl : ∀ i, i < l.length → w (21 + 6 * a) (b + i) = l.getD i 0) : qLs w a k = l := by
  unfold qLs
  rw [e1, e2, nI_clamp (by omega), nI_clamp (by omega), Nat.add_sub_cancel_left]
  apply List.ext_getElem
  · simp
  · intro i h1 h2
    simp only [List.getElem_map, List.getElem_range]
    rw [hl i h2, List.getD_eq_getElem?_getD, List.getElem?_eq_getElem h2]
    rfl
/-- an order of the World and of the model -/
theorem q_ord {n : Nat} {w : zWd} (h : qInv n w) {a S : Nat} (hS : S ≤ 10) (e : w 232 2 = nI S) (ha : a < S) : ∃ F K m : Nat, F ≤ 400 ∧ K ≤ 8 ∧ w (16 + 6 * a) 0 = nI F ∧ w (16 + 6 * a) 1 = nI K ∧ w 232 (240 + a) = nI F ∧ w 232 (1600 + a) = nI K ∧ qTx w a m
    ∧ ∀ k, k < K → (∃ N V : Nat, N ≤ 5 ∧ V ≤ 999 ∧ w (17 + 6 * a) k = nI N ∧ w 232 (1612 + 8 * a + k) = nI N ∧ w (18 + 6 * a) k = nI V ∧ w 232 (1700 + 8 * a + k) = nI V) ∧ (w 232 (1612 + 8 * a + k) = 0 → ∃ p p' b : Nat, w 232 (1790 + 8 * a + k) = nI p ∧ p ≤ m ∧ qE (qFx w a) m p = (p', some (qLs w a k)) ∧ w (19 + 6 * a) k = nI b ∧ w (20 + 6 * a) k = nI (b + (qLs w a k).length) ∧ b + (qLs w a k).length ≤ 120 ∧ ∀ i, i < (qLs w a k).length → w (21 + 6 * a) (b + i) = (qLs w a k).getD i 0) := by
  obtain ⟨g1, g2, g3, g4, m, hm, g5, g6, g7⟩ := h.1.2.2.2.2.2.2.2 a (by rw [e, nIi (by omega)]; omega)
  have v : ∀ j, j ≤ 5 → qVw w 1 (15 + 6 * a + j) = w (16 + 6 * a + j) := fun j hj => by rw [qVw_at w (by omega)]; congr 1; omega
  have v0 := v 0 (by omega)
  have v1 := v 1 (by omega)
  have v2 := v 2 (by omega)
  have v3 := v 3 (by omega)
  have v4 := v 4 (by omega)
  have v5 := v 5 (by omega)
  rw [show 16 + 6 * a + 1 = 17 + 6 * a by omega] at v1
  rw [show 16 + 6 * a + 2 = 18 + 6 * a by omega] at v2
  rw [show 16 + 6 * a + 3 = 19 + 6 * a by omega] at v3
  rw [show 16 + 6 * a + 4 = 20 + 6 * a by omega] at v4
  rw [show 16 + 6 * a + 5 = 21 + 6 * a by omega] at v5
  simp only [Nat.add_zero] at v0
  simp only [v0, v1, v2, v3, v4, v5] at g1 g2 g7
  obtain ⟨F, f1, f2, f3, _⟩ := qNat g3 (Int.le_refl 0)
  obtain ⟨K, k1, k2, k3, _⟩ := qNat g4 (Int.le_refl 0)
  refine ⟨F, K, m, by omega, by omega, by rw [g1]; exact f1, by rw [g2]; exact k1, f1, k1, ⟨by omega, hm, g5⟩, fun k hk => ?_⟩
  obtain ⟨j1, j2, j3, j4, j5⟩ := g7 k (by omega)
  obtain ⟨N, n1, n2, n3, _⟩ := qNat j3 (Int.le_refl 0)
  obtain ⟨V, x1, x2, x3, _⟩ := qNat j4 (Int.le_refl 0)
  refine ⟨⟨N, V, by omega, by omega, by rw [j1]; exact n1, n1, by rw [j2]; exact x1, x1⟩, fun hz => ?_⟩
  obtain ⟨p, p', b, l, y1, y2, y3, y4, y5, y6, y7⟩ := j5 hz
  have el := qLs_of y4 y5 y6 y7
  have hp := (qGd_E y3)
  refine ⟨p, p', b, y1, by omega, ?_, y4, by rw [el]; exact y5, by rw [el]; exact y6, by rw [el]; exact y7⟩
  rw [el]; exact y3
/-- a clause holds for a taker, as the model reads it -/
theorem h_holds {w : zWd} {a k m p p' : Nat} {T kd tp ga he si : Int32} {l : List Int32} (hk : k < 8) (ht : qTx w a m) (ha : a ≤ 10) (hT : qTold w T kd tp ga he si) (ep : w 232 (1790 + 8 * a + k) = nI p) (hp : p ≤ m) (hE : qE (qFx w a) m p = (p', some l)) {u : zWd} (hu : qS1 w u) : ∃ w', mX12_holds 231 (nI (8 * a + k)) T u = some (if qVal (qTv kd tp ga he si) l then 1 else 0, w') ∧ qS1 w w' := by
  unfold mX12_holds
  have e232 := hu.1 232 (by decide)
  have d8 : nI (8 * a + k) / 8 = nI a := by
    rw [show (8 : Int32) = nI 8 from rfl, pk_div (by omega) (by decide) (by decide)]; congr 1; omega
  rw [d8, zbn_e]
  have eS : u 232 (1790 + (8 * a + k)) = nI p := by rw [e232]; rw [← Nat.add_assoc]; exact ep
  simp (disch := (first | omega | (simp (disch := omega) only [zu1, zu2, zu3, nIi, show (1790 : Int32) = nI 1790 from rfl, eS, zgd_t zB0]; omega))) only [if_true, if_false, zE10, zE00, zOkN, Nat.reduceAdd, Nat.reduceMul, zcl_s, zif01, zbn_e, nIi, nI_clamp, nI_add, nI_1, pk_mul, zgi, zlt, zle, Int32.zero_add, Int32.add_zero, C0, C1, G0, G1, Nat.zero_add, Nat.add_zero, l2, l3, l4, l5, l6, l7, l8, l10, l11, l12, l20, l30, l48, l50, l60, l100, l120, l140, l152, l164, l176, l188, l200, l212, l224, l1604, l1880, l2000, l2008, l2016, l2024, l2032, l2040, l2048, l2210, l2240, l2270, l2300, l2330, l2390, l2450, l2510, l2570, l2590, l2620, l2650, l2660, l2700, T0, T1, Tm1, Tm99, Tm999, p_within, p_in, p_isCell, p_isOwner, p_isDay11, p_isDay12, p_isTap11, p_isTaker11, if_pos, if_neg, p_isTap12, p_isTaker12, p_isGone, zu1, zu2, zu3, nIe, Nat.reduceSub, show (1790 : Int32) = nI 1790 from rfl, eS, zgd_t zB0]
  have hw : qMs w a T 0 p 0 (zup (zup (zup (zup (zup u 231 10 (nI a)) 231 11 (nI p)) 231 13 0) 231 12 0) 231 14 T) := by
    refine ⟨((((hu.up (by omega) _).up (by omega) _).up (by omega) _).up (by omega) _).up (by omega) _, ?_, ?_, ?_, ?_, ?_⟩
    · rw [zu2 _ _ (by decide), zu2 _ _ (by decide), zu2 _ _ (by decide), zu2 _ _ (by decide), zu3]
    · rw [zu2 _ _ (by decide), zu2 _ _ (by decide), zu2 _ _ (by decide), zu3]
    · rw [zu2 _ _ (by decide), zu3]
    · rw [zu2 _ _ (by decide), zu2 _ _ (by decide), zu3]; rfl
    · rw [zu3]
  obtain ⟨x, w', g1, g2, g3⟩ := h_E ht hT hp hw
  rw [hE] at g3
  simp only at g3
  refine ⟨w', ?_, g3.2.1⟩
  rw [g1, zcl_s, zgd_t g2, g3.1]
