/-- a cell put whole -/
def qPw (w : zWd) (c : Nat) (O : Nat → Int32) : zWd := fun a => if a = c then O else w a
theorem qPw_e (w : zWd) (c : Nat) (O : Nat → Int32) : qPw w c O c = O := by unfold qPw; rw [if_pos rfl]
theorem qPw_n (w : zWd) {c a : Nat} (O : Nat → Int32) (h : a ≠ c) : qPw w c O a = w a := by unfold qPw; rw [if_neg h]
theorem qPw_u (w : zWd) (c j : Nat) (v : Int32) : zup w c j v = qPw w c (upd (w c) j v) := by
  funext a; unfold zup qPw
  by_cases e : a = c
  · rw [if_pos e, if_pos e, e]
  · rw [if_neg e, if_neg e]
theorem qPw_p (w : zWd) (c : Nat) (O O' : Nat → Int32) : qPw (qPw w c O) c O' = qPw w c O' := by
  funext a; unfold qPw
  by_cases e : a = c
  · rw [if_pos e, if_pos e]
  · rw [if_neg e, if_neg e, if_neg e]
theorem qPw_uu (w : zWd) (c : Nat) (O : Nat → Int32) (j : Nat) (v : Int32) : zup (qPw w c O) c j v = qPw w c (upd O j v) := by rw [qPw_u, qPw_e, qPw_p]
theorem qPw_s (w : zWd) (c : Nat) : qPw w c (w c) = w := by
  funext a; unfold qPw
  by_cases e : a = c
  · rw [if_pos e, e]
  · rw [if_neg e]
/-- the new one goes ahead of those that it is ahead of, from place i down -/
def qSf (lt : Int32 → Bool) (v : Int32) : Nat → (Nat → Int32) → Nat → Int32
  | 0, O => upd O 0 v
  | i + 1, O => if lt (O i) = true then qSf lt v i (upd O (i + 1) (O i)) else upd O (i + 1) v
def qAh (R S : Nat → Int32) (k : Nat) (b : Int32) : Bool := decide ((R k).toInt < (R b.toNatClampNeg).toInt ∨ (R k = R b.toNatClampNeg ∧ (S k).toInt < (S b.toNatClampNeg).toInt))
def qLn (R S : Nat → Int32) : Nat → (Nat → Int32) → Nat → Int32
  | 0, O => O
  | k + 1, O => qSf (qAh R S k) (nI k) k (qLn R S k O)
section QS
variable {lt : Int32 → Bool} {v : Int32} {k m : Nat}
theorem qSf_v : ∀ i (O : Nat → Int32), i ≤ m → (∀ j, j ≤ m → j ≠ i → ∃ t, t < k ∧ O j = nI t) → ∀ j, j ≤ m → qSf lt v i O j = v ∨ ∃ t, t < k ∧ qSf lt v i O j = nI t
  | 0, O, hi, h, j, hj => by
    unfold qSf
    by_cases e : j = 0
    · rw [e, qu_eq]; exact Or.inl rfl
    · rw [qu_ne _ _ e]; exact Or.inr (h j hj e)
  | i + 1, O, hi, h, j, hj => by
    unfold qSf
    by_cases c : lt (O i) = true
    · rw [if_pos c]
      refine qSf_v i _ (by omega) (fun j' hj' hn => ?_) j hj
      by_cases e : j' = i + 1
      · rw [e, qu_eq]; exact h i (by omega) (by omega)
      · rw [qu_ne _ _ e]; exact h j' hj' e
    · rw [if_neg c]
      by_cases e : j = i + 1
      · rw [e, qu_eq]; exact Or.inl rfl
      · rw [qu_ne _ _ e]; exact Or.inr (h j hj e)
theorem qSf_t : ∀ i (O : Nat → Int32), i ≤ m → (∃ j, j ≤ m ∧ qSf lt v i O j = v) ∧ ∀ x, (∃ j, j ≤ m ∧ j ≠ i ∧ O j = x) → ∃ j, j ≤ m ∧ qSf lt v i O j = x
  | 0, O, hi => by
    unfold qSf
    refine ⟨⟨0, hi, qu_eq _ _ _⟩, fun x ⟨j, h1, h2, h3⟩ => ⟨j, h1, by rw [qu_ne _ _ h2]; exact h3⟩⟩
  | i + 1, O, hi => by
    unfold qSf
    by_cases c : lt (O i) = true
    · rw [if_pos c]
      obtain ⟨g1, g2⟩ := qSf_t i (upd O (i + 1) (O i)) (by omega)
      refine ⟨g1, fun x ⟨j, h1, h2, h3⟩ => g2 x ?_⟩
      by_cases e : j = i
      · exact ⟨i + 1, by omega, by omega, by rw [qu_eq, ← e]; exact h3⟩
      · exact ⟨j, h1, e, by rw [qu_ne _ _ h2]; exact h3⟩
    · rw [if_neg c]
      exact ⟨⟨i + 1, hi, qu_eq _ _ _⟩, fun x ⟨j, h1, h2, h3⟩ => ⟨j, h1, by rw [qu_ne _ _ h2]; exact h3⟩⟩
theorem qSf_j : ∀ i (O O' : Nat → Int32), i ≤ m → (∀ j, j ≤ m → j ≠ i → O j = O' j) → ∀ j, j ≤ m → qSf lt v i O j = qSf lt v i O' j
  | 0, O, O', hi, h, j, hj => by
    unfold qSf
    by_cases e : j = 0
    · rw [e, qu_eq, qu_eq]
    · rw [qu_ne _ _ e, qu_ne _ _ e]; exact h j hj e
  | i + 1, O, O', hi, h, j, hj => by
    unfold qSf
    rw [h i (by omega) (by omega)]
    by_cases c : lt (O' i) = true
    · rw [if_pos c, if_pos c]
      refine qSf_j i _ _ (by omega) (fun j' hj' hn => ?_) j hj
      by_cases e : j' = i + 1
      · rw [e, qu_eq, qu_eq]
      · rw [qu_ne _ _ e, qu_ne _ _ e]; exact h j' hj' e
    · rw [if_neg c, if_neg c]
      by_cases e : j = i + 1
      · rw [e, qu_eq, qu_eq]
      · rw [qu_ne _ _ e, qu_ne _ _ e]; exact h j hj e
end QS
section QLN
variable {R S : Nat → Int32}
/-- each place of THE ROW holds a taker -/
theorem qLn_v : ∀ k (O : Nat → Int32) j, j < k → ∃ t, t < k ∧ qLn R S k O j = nI t
  | 0, _, _, hj => by omega
  | k + 1, O, j, hj => by
    unfold qLn
    rcases qSf_v (lt := qAh R S k) (v := nI k) (k := k) (m := k) k (qLn R S k O) (Nat.le_refl k) (fun j' h1 h2 => qLn_v k O j' (by omega)) j (by omega) with h | ⟨t, h1, h2⟩
    · exact ⟨k, by omega, h⟩
    · exact ⟨t, by omega, h2⟩
/-- each taker stands in THE ROW -/
theorem qLn_t : ∀ k (O : Nat → Int32) t, t < k → ∃ j, j < k ∧ qLn R S k O j = nI t
  | 0, _, _, ht => by omega
  | k + 1, O, t, ht => by
    unfold qLn
    obtain ⟨⟨j0, g1, g2⟩, g3⟩ := qSf_t (lt := qAh R S k) (v := nI k) (m := k) k (qLn R S k O) (Nat.le_refl k)
    by_cases e : t = k
    · exact ⟨j0, by omega, by rw [e]; exact g2⟩
    · obtain ⟨j, h1, h2⟩ := qLn_t k O t (by omega)
      obtain ⟨j', k1, k2⟩ := g3 (nI t) ⟨j, by omega, by omega, h2⟩
      exact ⟨j', by omega, k2⟩
/-- what stood there before counts for nothing -/
theorem qLn_j : ∀ k (O O' : Nat → Int32) j, j < k → qLn R S k O j = qLn R S k O' j
  | 0, _, _, _, hj => by omega
  | k + 1, O, O', j, hj => by
    unfold qLn
    exact qSf_j (m := k) k _ _ (Nat.le_refl k) (fun j' h1 h2 => qLn_j k O O' j' (by omega)) j (by omega)
theorem qAh_t {k t : Nat} (ht : t < 2 ^ 31) (h : (R k).toInt < (R t).toInt ∨ (R k = R t ∧ (S k).toInt < (S t).toInt)) : qAh R S k (nI t) = true := by
  unfold qAh; rw [nI_clamp ht]; exact decide_eq_true h
theorem qAh_f {k t : Nat} (ht : t < 2 ^ 31) (h : ¬ ((R k).toInt < (R t).toInt ∨ (R k = R t ∧ (S k).toInt < (S t).toInt))) : qAh R S k (nI t) = false := by
  unfold qAh; rw [nI_clamp ht]; exact decide_eq_false h
theorem p_isAhead {w : zWd} {k t : Nat} (hk : k < 8) (ht : t < 8) (r1 : w 218 k = R k) (r2 : w 218 t = R t) (s1 : w 87 k = S k) (s2 : w 87 t = S t) : mX5_isAhead 217 82 (nI k) (nI t) w = some (if qAh R S k (nI t) = true then 1 else 0, w) := by
  unfold mX5_isAhead mX5_isAhead_58
  by_cases c1 : R k = R t
  · by_cases c2 : (S t).toInt ≤ (S k).toInt
    · rw [qAh_f (by omega) (fun q => by rcases q with q | q; rw [c1] at q; omega; omega)]
      simp only [Bool.false_eq_true, if_false]
      simp (disch := (first | omega | (simp (disch := omega) only [zu1, zu2, zu3, nIi, r1, r2, s1, s2, c1, zgd_t zB0]; omega))) only [if_true, if_false, zE10, zE00, zOkN, Nat.reduceAdd, Nat.reduceMul, zcl_s, zif01, zbn_e, nIi, nI_clamp, nI_add, nI_1, pk_mul, zgi, zlt, zle, Int32.zero_add, Int32.add_zero, C0, C1, G0, G1, Nat.zero_add, Nat.add_zero, l2, l3, l4, l5, l6, l7, l8, l10, l11, l12, l20, l30, l48, l50, l60, l100, l120, l140, l152, l164, l176, l188, l200, l212, l224, l1604, l1880, l2000, l2008, l2016, l2024, l2032, l2040, l2048, l2210, l2240, l2270, l2300, l2330, l2390, l2450, l2510, l2570, l2590, l2620, l2650, l2660, l2700, T0, T1, Tm1, Tm99, Tm999, p_within, p_in, p_isCell, p_isOwner, p_isDay11, p_isDay12, p_isTap11, p_isTaker11, if_pos, if_neg, p_isTap12, p_isTaker12, p_isGone, zu1, zu2, zu3, nIe, Nat.reduceSub, r1, r2, s1, s2, c1, zgd_t zB0]
    · rw [qAh_t (by omega) (Or.inr ⟨c1, by omega⟩), if_pos rfl]
      simp (disch := (first | omega | (simp (disch := omega) only [zu1, zu2, zu3, nIi, r1, r2, s1, s2, c1, zgd_t zB1]; omega))) only [if_true, if_false, zE10, zE00, zOkN, Nat.reduceAdd, Nat.reduceMul, zcl_s, zif01, zbn_e, nIi, nI_clamp, nI_add, nI_1, pk_mul, zgi, zlt, zle, Int32.zero_add, Int32.add_zero, C0, C1, G0, G1, Nat.zero_add, Nat.add_zero, l2, l3, l4, l5, l6, l7, l8, l10, l11, l12, l20, l30, l48, l50, l60, l100, l120, l140, l152, l164, l176, l188, l200, l212, l224, l1604, l1880, l2000, l2008, l2016, l2024, l2032, l2040, l2048, l2210, l2240, l2270, l2300, l2330, l2390, l2450, l2510, l2570, l2590, l2620, l2650, l2660, l2700, T0, T1, Tm1, Tm99, Tm999, p_within, p_in, p_isCell, p_isOwner, p_isDay11, p_isDay12, p_isTap11, p_isTaker11, if_pos, if_neg, p_isTap12, p_isTaker12, p_isGone, zu1, zu2, zu3, nIe, Nat.reduceSub, r1, r2, s1, s2, c1, zgd_t zB1]
  · by_cases c2 : (R t).toInt ≤ (R k).toInt
    · rw [qAh_f (by omega) (fun q => by rcases q with q | q; omega; exact c1 q.1)]
      simp only [Bool.false_eq_true, if_false]
      simp (disch := (first | omega | (simp (disch := omega) only [zu1, zu2, zu3, nIi, r1, r2, s1, s2, c1, zgd_t zB0]; omega))) only [if_true, if_false, zE10, zE00, zOkN, Nat.reduceAdd, Nat.reduceMul, zcl_s, zif01, zbn_e, nIi, nI_clamp, nI_add, nI_1, pk_mul, zgi, zlt, zle, Int32.zero_add, Int32.add_zero, C0, C1, G0, G1, Nat.zero_add, Nat.add_zero, l2, l3, l4, l5, l6, l7, l8, l10, l11, l12, l20, l30, l48, l50, l60, l100, l120, l140, l152, l164, l176, l188, l200, l212, l224, l1604, l1880, l2000, l2008, l2016, l2024, l2032, l2040, l2048, l2210, l2240, l2270, l2300, l2330, l2390, l2450, l2510, l2570, l2590, l2620, l2650, l2660, l2700, T0, T1, Tm1, Tm99, Tm999, p_within, p_in, p_isCell, p_isOwner, p_isDay11, p_isDay12, p_isTap11, p_isTaker11, if_pos, if_neg, p_isTap12, p_isTaker12, p_isGone, zu1, zu2, zu3, nIe, Nat.reduceSub, r1, r2, s1, s2, c1, zgd_t zB0]
    · rw [qAh_t (by omega) (Or.inl (by omega)), if_pos rfl]
      simp (disch := (first | omega | (simp (disch := omega) only [zu1, zu2, zu3, nIi, r1, r2, s1, s2, c1, zgd_t zB1]; omega))) only [if_true, if_false, zE10, zE00, zOkN, Nat.reduceAdd, Nat.reduceMul, zcl_s, zif01, zbn_e, nIi, nI_clamp, nI_add, nI_1, pk_mul, zgi, zlt, zle, Int32.zero_add, Int32.add_zero, C0, C1, G0, G1, Nat.zero_add, Nat.add_zero, l2, l3, l4, l5, l6, l7, l8, l10, l11, l12, l20, l30, l48, l50, l60, l100, l120, l140, l152, l164, l176, l188, l200, l212, l224, l1604, l1880, l2000, l2008, l2016, l2024, l2032, l2040, l2048, l2210, l2240, l2270, l2300, l2330, l2390, l2450, l2510, l2570, l2590, l2620, l2650, l2660, l2700, T0, T1, Tm1, Tm99, Tm999, p_within, p_in, p_isCell, p_isOwner, p_isDay11, p_isDay12, p_isTap11, p_isTaker11, if_pos, if_neg, p_isTap12, p_isTaker12, p_isGone, zu1, zu2, zu3, nIe, Nat.reduceSub, r1, r2, s1, s2, c1, zgd_t zB1]
theorem nI_p1 {i : Nat} : nI (i + 1) - 1 = nI i := by rw [show (1 : Int32) = nI 1 from rfl, pk_sub (by omega)]; rfl
theorem nI_m1 {i : Nat} : nI (i + 1) + -1 = nI i := by rw [← Int32.sub_eq_add_neg]; exact nI_p1
theorem s_insert {w : zWd} {k : Nat} (hk : k < 8) (hR : ∀ j, j ≤ k → w 218 j = R j) (hS : ∀ j, j ≤ k → w 87 j = S j) : ∀ i (O : Nat → Int32) N, i ≤ k → i < N → (∀ j, j < i → ∃ t, t < k ∧ O j = nI t) → zlp (fun k2 q => mX5_insert_2b 217 82 (nI k) k2 q.1 q.2) N (nI i, qPw w 219 O) = some ((), qPw w 219 (qSf (qAh R S k) (nI k) i O)) := by
  intro i
  induction i with
  | zero =>
    intro O N hi hN hO
    obtain ⟨N, rfl⟩ : ∃ m, N = m + 1 := ⟨N - 1, by omega⟩
    rw [zlp_1]
    simp only [mX5_insert_2b, mX5_insert_43]
    rw [if_pos (show nI 0 ≤ 0 by decide), zgd_t (show zin (nI 0) 8 from vp_in_nI (by omega) (by decide)), zbn_e, nI_clamp (by omega), qPw_uu]
    rfl
  | succ i ih =>
    intro O N hi hN hO
    obtain ⟨N, rfl⟩ : ∃ m, N = m + 1 := ⟨N - 1, by omega⟩
    rw [zlp_1]
    have ih2 := fun O h => ih O N (by omega) (by omega) h
    show mX5_insert_2b 217 82 (nI k) (zlp (fun k2 q => mX5_insert_2b 217 82 (nI k) k2 q.1 q.2) N) (nI (i + 1)) (qPw w 219 O) = _
    generalize zlp (fun k2 q => mX5_insert_2b 217 82 (nI k) k2 q.1 q.2) N = Z at ih2 ⊢
    simp only [mX5_insert_2b, mX5_insert_43, Nat.reduceAdd]
    obtain ⟨t, ht, eO⟩ := hO i (by omega)
    have hA : mX5_isAhead 217 82 (nI k) (nI t) (qPw w 219 O) = some (if qAh R S k (nI t) = true then 1 else 0, qPw w 219 O) := p_isAhead hk (by omega) (by rw [qPw_n _ _ (by decide)]; exact hR k (by omega)) (by rw [qPw_n _ _ (by decide)]; exact hR t (by omega)) (by rw [qPw_n _ _ (by decide)]; exact hS k (by omega)) (by rw [qPw_n _ _ (by decide)]; exact hS t (by omega))
    rw [if_neg (show ¬ nI (i + 1) ≤ 0 from nI_ge (a := 0) (by omega) (by omega)), nI_p1, zgd_t (show zin (nI i) 8 from vp_in_nI (by omega) (by decide))]
    simp only [nI_clamp (show i < 2 ^ 31 by omega), qPw_e, eO, hA, zcl_s]
    have e1 : qSf (qAh R S k) (nI k) (i + 1) O = if qAh R S k (nI t) = true then qSf (qAh R S k) (nI k) i (upd O (i + 1) (nI t)) else upd O (i + 1) (nI k) := by
      rw [← eO]; rfl
    rw [e1]
    by_cases c : qAh R S k (nI t) = true
    · rw [if_pos c, if_neg (by decide), zgd_t (show zin (nI i) 8 from vp_in_nI (by omega) (by decide)), zgd_t (show zin (nI (i + 1)) 8 from vp_in_nI (by omega) (by decide)), zbn_e, nI_clamp (show i + 1 < 2 ^ 31 by omega), qPw_uu, nI_m1, if_pos c]
      refine ih2 _ (fun j hj => ?_)
      rw [qu_ne _ _ (by omega)]
      exact hO j (by omega)
    · rw [if_neg c, if_pos rfl, zgd_t (show zin (nI (i + 1)) 8 from vp_in_nI (by omega) (by decide)), zbn_e, nI_clamp (show i + 1 < 2 ^ 31 by omega), qPw_uu, if_neg c]
theorem s_insert12 {w : zWd} {k : Nat} (k2 : Int32 × zWd → Option (Unit × zWd)) (d : Int32) (hk : k < 8) (hR : ∀ j, j ≤ k → w 241 j = R j) (hS : ∀ j, j ≤ k → w 232 (2032 + j) = S j) : ∀ i (O : Nat → Int32) N, i ≤ k → i < N → (∀ j, j < i → ∃ t, t < k ∧ O j = nI t) → zlp (fun k26 q => mX12_rows_26b k2 231 d (nI k) k26 q.1 q.2) N (nI i, qPw w 240 O) = k2 (nI (k + 1), qPw w 240 (qSf (qAh R S k) (nI k) i O)) := by
  intro i
  induction i with
  | zero =>
    intro O N hi hN hO
    obtain ⟨N, rfl⟩ : ∃ m, N = m + 1 := ⟨N - 1, by omega⟩
    rw [zlp_1]
    simp only [mX12_rows_26b, mX12_rows_124]
    rw [if_pos (show nI 0 ≤ 0 by decide), zgd_t (show zin (nI 0) 8 from vp_in_nI (by omega) (by decide)), zbn_e, nI_clamp (by omega), qPw_uu, nI_succ]
    rfl
  | succ i ih =>
    intro O N hi hN hO
    obtain ⟨N, rfl⟩ : ∃ m, N = m + 1 := ⟨N - 1, by omega⟩
    rw [zlp_1]
    obtain ⟨t, ht, eO⟩ := hO i (by omega)
    have e1 : qSf (qAh R S k) (nI k) (i + 1) O = if qAh R S k (nI t) = true then qSf (qAh R S k) (nI k) i (upd O (i + 1) (nI t)) else upd O (i + 1) (nI k) := by
      rw [← eO]; rfl
    have stop : mX12_rows_124 k2 231 d (nI k) (nI (i + 1)) (qPw w 240 O) = k2 (nI (k + 1), qPw w 240 (upd O (i + 1) (nI k))) := by
      unfold mX12_rows_124
      rw [zgd_t (show zin (nI (i + 1)) 8 from vp_in_nI (by omega) (by decide)), zbn_e, nI_clamp (show i + 1 < 2 ^ 31 by omega), qPw_uu, nI_succ k]
    have ih2 := fun O h => ih O N (by omega) (by omega) h
    show mX12_rows_26b k2 231 d (nI k) (zlp (fun k26 q => mX12_rows_26b k2 231 d (nI k) k26 q.1 q.2) N) (nI (i + 1)) (qPw w 240 O) = _
    generalize zlp (fun k26 q => mX12_rows_26b k2 231 d (nI k) k26 q.1 q.2) N = Z at ih2 ⊢
    have shift : mX12_rows_104 k2 Z 231 d (nI k) (nI (i + 1)) (qPw w 240 O) = k2 (nI (k + 1), qPw w 240 (qSf (qAh R S k) (nI k) i (upd O (i + 1) (nI t)))) := by
      unfold mX12_rows_104
      rw [nI_p1, zgd_t (show zin (nI i) 8 from vp_in_nI (by omega) (by decide)), zgd_t (show zin (nI (i + 1)) 8 from vp_in_nI (by omega) (by decide)), zbn_e, nI_clamp (show i + 1 < 2 ^ 31 by omega), nI_clamp (show i < 2 ^ 31 by omega), show 231 + 9 = 240 from rfl, qPw_e, eO, qPw_uu, nI_m1]
      refine ih2 _ (fun j hj => ?_)
      rw [qu_ne _ _ (by omega)]
      exact hO j (by omega)
    have r1 := hR k (by omega)
    have r2 := hR t (by omega)
    have s1 := hS k (by omega)
    have s2 := hS t (by omega)
    have n1 : ∀ a, a ≠ 240 → qPw w 240 O a = w a := fun a ha => qPw_n _ _ ha
    have n2 : qPw w 240 O 240 i = nI t := by rw [qPw_e]; exact eO
    simp only [mX12_rows_26b]
    rw [e1]
    by_cases c1 : (R k).toInt < (R t).toInt
    · rw [qAh_t (by omega) (Or.inl c1), if_pos rfl]
      simp (disch := (first | omega | (simp (disch := omega) only [zu1, zu2, zu3, nIi, nI_p1, n1, n2, r1, r2]; omega))) only [if_true, if_false, zE10, zE00, zOkN, Nat.reduceAdd, Nat.reduceMul, zcl_s, zif01, zbn_e, nIi, nI_clamp, nI_add, nI_1, pk_mul, zgi, zlt, zle, Int32.zero_add, Int32.add_zero, C0, C1, G0, G1, Nat.zero_add, Nat.add_zero, l2, l3, l4, l5, l6, l7, l8, l10, l11, l12, l20, l30, l48, l50, l60, l100, l120, l140, l152, l164, l176, l188, l200, l212, l224, l1604, l1880, l2000, l2008, l2016, l2024, l2032, l2040, l2048, l2210, l2240, l2270, l2300, l2330, l2390, l2450, l2510, l2570, l2590, l2620, l2650, l2660, l2700, T0, T1, Tm1, Tm99, Tm999, p_within, p_in, p_isCell, p_isOwner, p_isDay11, p_isDay12, p_isTap11, p_isTaker11, if_pos, if_neg, p_isTap12, p_isTaker12, p_isGone, zu1, zu2, zu3, nIe, Nat.reduceSub, nI_p1, n1, n2, r1, r2]
      exact shift
    by_cases c2 : R t = R k
    · by_cases c3 : (S t).toInt ≤ (S k).toInt
      · rw [qAh_f (by omega) (fun q => by omega)]
        simp only [Bool.false_eq_true, if_false]
        simp (disch := (first | omega | (simp (disch := omega) only [zu1, zu2, zu3, nIi, nI_p1, n1, n2, r1, r2, s1, s2, c2]; omega))) only [if_true, if_false, zE10, zE00, zOkN, Nat.reduceAdd, Nat.reduceMul, zcl_s, zif01, zbn_e, nIi, nI_clamp, nI_add, nI_1, pk_mul, zgi, zlt, zle, Int32.zero_add, Int32.add_zero, C0, C1, G0, G1, Nat.zero_add, Nat.add_zero, l2, l3, l4, l5, l6, l7, l8, l10, l11, l12, l20, l30, l48, l50, l60, l100, l120, l140, l152, l164, l176, l188, l200, l212, l224, l1604, l1880, l2000, l2008, l2016, l2024, l2032, l2040, l2048, l2210, l2240, l2270, l2300, l2330, l2390, l2450, l2510, l2570, l2590, l2620, l2650, l2660, l2700, T0, T1, Tm1, Tm99, Tm999, p_within, p_in, p_isCell, p_isOwner, p_isDay11, p_isDay12, p_isTap11, p_isTaker11, if_pos, if_neg, p_isTap12, p_isTaker12, p_isGone, zu1, zu2, zu3, nIe, Nat.reduceSub, nI_p1, n1, n2, r1, r2, s1, s2, c2]
        exact stop
      · rw [qAh_t (by omega) (Or.inr ⟨c2.symm, by omega⟩), if_pos rfl]
        simp (disch := (first | omega | (simp (disch := omega) only [zu1, zu2, zu3, nIi, nI_p1, n1, n2, r1, r2, s1, s2, c2]; omega))) only [if_true, if_false, zE10, zE00, zOkN, Nat.reduceAdd, Nat.reduceMul, zcl_s, zif01, zbn_e, nIi, nI_clamp, nI_add, nI_1, pk_mul, zgi, zlt, zle, Int32.zero_add, Int32.add_zero, C0, C1, G0, G1, Nat.zero_add, Nat.add_zero, l2, l3, l4, l5, l6, l7, l8, l10, l11, l12, l20, l30, l48, l50, l60, l100, l120, l140, l152, l164, l176, l188, l200, l212, l224, l1604, l1880, l2000, l2008, l2016, l2024, l2032, l2040, l2048, l2210, l2240, l2270, l2300, l2330, l2390, l2450, l2510, l2570, l2590, l2620, l2650, l2660, l2700, T0, T1, Tm1, Tm99, Tm999, p_within, p_in, p_isCell, p_isOwner, p_isDay11, p_isDay12, p_isTap11, p_isTaker11, if_pos, if_neg, p_isTap12, p_isTaker12, p_isGone, zu1, zu2, zu3, nIe, Nat.reduceSub, nI_p1, n1, n2, r1, r2, s1, s2, c2]
        exact shift
    · rw [qAh_f (by omega) (fun q => by rcases q with q | q; omega; exact c2 q.1.symm)]
      simp only [Bool.false_eq_true, if_false]
      simp (disch := (first | omega | (simp (disch := omega) only [zu1, zu2, zu3, nIi, nI_p1, n1, n2, r1, r2, c2]; omega))) only [if_true, if_false, zE10, zE00, zOkN, Nat.reduceAdd, Nat.reduceMul, zcl_s, zif01, zbn_e, nIi, nI_clamp, nI_add, nI_1, pk_mul, zgi, zlt, zle, Int32.zero_add, Int32.add_zero, C0, C1, G0, G1, Nat.zero_add, Nat.add_zero, l2, l3, l4, l5, l6, l7, l8, l10, l11, l12, l20, l30, l48, l50, l60, l100, l120, l140, l152, l164, l176, l188, l200, l212, l224, l1604, l1880, l2000, l2008, l2016, l2024, l2032, l2040, l2048, l2210, l2240, l2270, l2300, l2330, l2390, l2450, l2510, l2570, l2590, l2620, l2650, l2660, l2700, T0, T1, Tm1, Tm99, Tm999, p_within, p_in, p_isCell, p_isOwner, p_isDay11, p_isDay12, p_isTap11, p_isTaker11, if_pos, if_neg, p_isTap12, p_isTaker12, p_isGone, zu1, zu2, zu3, nIe, Nat.reduceSub, nI_p1, n1, n2, r1, r2, c2]
      exact stop
end QLN
def qLess (kd : Int32) : Int32 := if kd = 4 then 1 else if kd = 5 then 2 else 0
/-- THE ROW of a day, on both sides -/
theorem q_row {n : Nat} {w : zWd} (h : qInv n w) (d : Int32) {K : Nat} (hK : K ≤ 8) (e1 : w 82 0 = nI K) (e2 : w 232 3 = nI K) : ∃ R : Nat → Int32,
    (∀ u, qRc w u → ∃ u', mX5_form 217 14 82 d u = some ((), u') ∧ (∀ a, a ≠ 217 → a ≠ 218 → a ≠ 219 → u' a = u a) ∧ u' 217 0 = nI K ∧ (∀ t, t < K → u' 218 t = R t) ∧ u' 219 = qLn R (w 87) K (u 219))
    ∧ (∀ t, t < K → ∀ u, u 232 = w 232 → ∃ u', mX12_rankOf 231 (nI t) d u = some (R t, u') ∧ qS1 u u')
    ∧ ∀ u, u 232 = w 232 → ∃ u', mX12_rows 231 d u = some ((), u') ∧ (∀ a, a ≠ 231 → a ≠ 240 → a ≠ 241 → u' a = u a) ∧ (∀ j, j < 10 ∨ 14 < j → u' 231 j = u 231 j) ∧ (∀ t, t < K → u' 241 t = R t) ∧ u' 240 = qLn R (w 87) K (u 240) := by
  have hx : ∀ t, ∃ x : Nat, t < K → (∀ u, qRc w u → ∃ r, mX3_ruling 14 0 82 (nI t) d u = some (r, u) ∧ mX3_numberBy 14 r 0 u = some (nI x, u)) ∧ ∀ u, u 232 = w 232 → ∃ w', mX12_ruleFor 231 0 (nI t) d u = some (nI x, w') ∧ qS1 u w' := by
    intro t
    by_cases ht : t < K
    · obtain ⟨x, _, g⟩ := q_num h (N := 0) (by omega) d t (nI t) (nI t) (fun _ => ⟨by omega, rfl, rfl⟩)
      exact ⟨x, fun _ => g⟩
    · exact ⟨0, fun q => absurd q ht⟩
  obtain ⟨X, hX⟩ := Classical.axiomOfChoice hx
  have hkd : ∀ t, t < K → w 83 t = w 232 (2000 + t) := fun t ht => by
    have := qTo h 13 rfl (by decide) (i := t) (by omega)
    rwa [Nat.zero_add] at this
  have hsi : ∀ t, t < K → w 87 t = w 232 (2032 + t) := fun t ht => by
    have := qTo h 17 rfl (by decide) (i := t) (by omega)
    rwa [Nat.zero_add] at this
  let R : Nat → Int32 := fun t => nI (X t) - qLess (w 83 t)
  have hR : ∀ t, nI (X t) - qLess (w 83 t) = R t := fun t => rfl
  clear_value R
  have rank : ∀ t, t < K → ∀ u, u 232 = w 232 → ∃ u', mX12_rankOf 231 (nI t) d u = some (R t, u') ∧ qS1 u u' := by
    intro t ht u hu
    obtain ⟨u', g1, g2⟩ := (hX t ht).2 u hu
    refine ⟨u', ?_, g2⟩
    unfold mX12_rankOf mX12_rankOf_37
    have ek : u 232 (2000 + t) = w 83 t := by rw [hu, hkd t ht]
    by_cases c4 : w 83 t = 4
    · rw [show R t = nI (X t) - 1 by rw [← hR t]; unfold qLess; rw [if_pos c4]]
      simp (disch := (first | omega | (simp (disch := omega) only [zu1, zu2, zu3, nIi, ek, g1, c4]; omega))) only [if_true, if_false, zE10, zE00, zOkN, Nat.reduceAdd, Nat.reduceMul, zcl_s, zif01, zbn_e, nIi, nI_clamp, nI_add, nI_1, pk_mul, zgi, zlt, zle, Int32.zero_add, Int32.add_zero, C0, C1, G0, G1, Nat.zero_add, Nat.add_zero, l2, l3, l4, l5, l6, l7, l8, l10, l11, l12, l20, l30, l48, l50, l60, l100, l120, l140, l152, l164, l176, l188, l200, l212, l224, l1604, l1880, l2000, l2008, l2016, l2024, l2032, l2040, l2048, l2210, l2240, l2270, l2300, l2330, l2390, l2450, l2510, l2570, l2590, l2620, l2650, l2660, l2700, T0, T1, Tm1, Tm99, Tm999, p_within, p_in, p_isCell, p_isOwner, p_isDay11, p_isDay12, p_isTap11, p_isTaker11, if_pos, if_neg, p_isTap12, p_isTaker12, p_isGone, zu1, zu2, zu3, nIe, Nat.reduceSub, ek, g1, c4]
    by_cases c5 : w 83 t = 5
    · rw [show R t = nI (X t) - nI 2 by rw [← hR t]; unfold qLess; rw [if_neg c4, if_pos c5]; rfl]
      simp (disch := (first | omega | (simp (disch := omega) only [zu1, zu2, zu3, nIi, ek, g1, c5]; omega))) only [if_true, if_false, zE10, zE00, zOkN, Nat.reduceAdd, Nat.reduceMul, zcl_s, zif01, zbn_e, nIi, nI_clamp, nI_add, nI_1, pk_mul, zgi, zlt, zle, Int32.zero_add, Int32.add_zero, C0, C1, G0, G1, Nat.zero_add, Nat.add_zero, l2, l3, l4, l5, l6, l7, l8, l10, l11, l12, l20, l30, l48, l50, l60, l100, l120, l140, l152, l164, l176, l188, l200, l212, l224, l1604, l1880, l2000, l2008, l2016, l2024, l2032, l2040, l2048, l2210, l2240, l2270, l2300, l2330, l2390, l2450, l2510, l2570, l2590, l2620, l2650, l2660, l2700, T0, T1, Tm1, Tm99, Tm999, p_within, p_in, p_isCell, p_isOwner, p_isDay11, p_isDay12, p_isTap11, p_isTaker11, if_pos, if_neg, p_isTap12, p_isTaker12, p_isGone, zu1, zu2, zu3, nIe, Nat.reduceSub, ek, g1, c5]
    · rw [show R t = nI (X t) - 0 by rw [← hR t]; unfold qLess; rw [if_neg c4, if_neg c5]]
      have c4' : ¬ w 83 t = nI 4 := c4
      have c5' : ¬ w 83 t = nI 5 := c5
      simp (disch := (first | omega | (simp (disch := omega) only [zu1, zu2, zu3, nIi, ek, g1, c4', c5']; omega))) only [if_true, if_false, zE10, zE00, zOkN, Nat.reduceAdd, Nat.reduceMul, zcl_s, zif01, zbn_e, nIi, nI_clamp, nI_add, nI_1, pk_mul, zgi, zlt, zle, Int32.zero_add, Int32.add_zero, C0, C1, G0, G1, Nat.zero_add, Nat.add_zero, l2, l3, l4, l5, l6, l7, l8, l10, l11, l12, l20, l30, l48, l50, l60, l100, l120, l140, l152, l164, l176, l188, l200, l212, l224, l1604, l1880, l2000, l2008, l2016, l2024, l2032, l2040, l2048, l2210, l2240, l2270, l2300, l2330, l2390, l2450, l2510, l2570, l2590, l2620, l2650, l2660, l2700, T0, T1, Tm1, Tm99, Tm999, p_within, p_in, p_isCell, p_isOwner, p_isDay11, p_isDay12, p_isTap11, p_isTaker11, if_pos, if_neg, p_isTap12, p_isTaker12, p_isGone, zu1, zu2, zu3, nIe, Nat.reduceSub, ek, g1, c4', c5']
  refine ⟨R, ?_, rank, ?_⟩
  · intro u hu
    unfold mX5_form mX5_form_11
    rw [zbn_e, hu 82 (by omega) (by omega), e1]
    refine zlp_R (R := fun (Y : Option (Unit × zWd)) => ∃ u' : zWd, Y = some ((), u') ∧ (∀ a, a ≠ 217 → a ≠ 218 → a ≠ 219 → u' a = u a) ∧ u' 217 0 = nI K ∧ (∀ t, t < K → u' 218 t = R t) ∧ u' 219 = qLn R (w 87) K (u 219))
      (P := fun (i : Nat) (q : Int32 × zWd) => ∃ u' : zWd, q = (nI i, u') ∧ (∀ a, a ≠ 217 → a ≠ 218 → a ≠ 219 → u' a = u a) ∧ u' 217 0 = nI K ∧ (∀ t, t < i → u' 218 t = R t) ∧ u' 219 = qLn R (w 87) i (u 219)) (n := K) (by unfold zFU; omega) ?_ ⟨zup u 217 0 (nI K), rfl, fun a h1 _ _ => zpE _ _ _ h1, zu3 _ _ _ _, fun t ht => by omega, zpE _ _ _ (by decide)⟩
    rintro i hi q ⟨u1, rfl, g1, g2, g3, g4⟩ k hk
    simp only [mX5_form_11b]
    by_cases e : i = K
    · subst e
      refine ⟨u1, ?_, g1, g2, g3, g4⟩
      simp (disch := (first | omega | (simp (disch := omega) only [zu1, zu2, zu3, nIi, g2]; omega))) only [if_true, if_false, zE10, zE00, zOkN, Nat.reduceAdd, Nat.reduceMul, zcl_s, zif01, zbn_e, nIi, nI_clamp, nI_add, nI_1, pk_mul, zgi, zlt, zle, Int32.zero_add, Int32.add_zero, C0, C1, G0, G1, Nat.zero_add, Nat.add_zero, l2, l3, l4, l5, l6, l7, l8, l10, l11, l12, l20, l30, l48, l50, l60, l100, l120, l140, l152, l164, l176, l188, l200, l212, l224, l1604, l1880, l2000, l2008, l2016, l2024, l2032, l2040, l2048, l2210, l2240, l2270, l2300, l2330, l2390, l2450, l2510, l2570, l2590, l2620, l2650, l2660, l2700, T0, T1, Tm1, Tm99, Tm999, p_within, p_in, p_isCell, p_isOwner, p_isDay11, p_isDay12, p_isTap11, p_isTaker11, if_pos, if_neg, p_isTap12, p_isTaker12, p_isGone, zu1, zu2, zu3, nIe, Nat.reduceSub, g2]
    have hiK : i < K := by omega
    have rc : qRc w u1 := fun a h1 h2 => (g1 a (by omega) (by omega) (by omega)).trans (hu a h1 h2)
    obtain ⟨r, j1, j2⟩ := (hX i hiK).1 u1 rc
    have k83 : u1 83 i = w 83 i := by rw [rc 83 (by omega) (by omega)]
    have f50 : ∀ s0, qLess (w 83 i) = s0 → ∃ u', mX5_form_50 k 217 14 82 d (nI i) s0 u1 = some ((), u') ∧ (∀ a, a ≠ 217 → a ≠ 218 → a ≠ 219 → u' a = u a) ∧ u' 217 0 = nI K ∧ (∀ t, t < K → u' 218 t = R t) ∧ u' 219 = qLn R (w 87) K (u 219) := by
      intro s0 hs0
      unfold mX5_form_50 mX5_insert mX5_insert_2
      rw [j1, zcl_s, j2, zcl_s, zgd_t (show zin (nI i) 8 from vp_in_nI (by omega) (by decide)), zbn_e, nI_clamp (show i < 2 ^ 31 by omega), ← hs0, hR i]
      have hp : zup u1 (217 + 1) i (R i) = qPw (zup u1 218 i (R i)) 219 (qLn R (w 87) i (u 219)) := by
        rw [← g4, show u1 219 = zup u1 218 i (R i) 219 from (zpE _ _ _ (by decide)).symm, qPw_s]
      rw [hp, s_insert (R := R) (S := w 87) (by omega) (fun j hj => ?_) (fun j hj => ?_) i _ zFU (Nat.le_refl i) (by unfold zFU; omega) (fun j hj => qLn_v i _ j hj), zcl_s, ← nI_succ]
      · refine hk hiK _ ⟨_, rfl, fun a h1 h2 h3 => ?_, ?_, fun t ht => ?_, ?_⟩
        · rw [qPw_n _ _ h3, zpE _ _ _ h2]; exact g1 a h1 h2 h3
        · rw [qPw_n _ _ (by decide), zpE _ _ _ (by decide)]; exact g2
        · rw [qPw_n _ _ (by decide)]
          by_cases et : t = i
          · rw [et, zu3]
          · rw [zu2 _ _ et]; exact g3 t (by omega)
        · rw [qPw_e]; rfl
      · by_cases ej : j = i
        · rw [ej, zu3]
        · rw [zu2 _ _ ej]; exact g3 j (by omega)
      · rw [zpE _ _ _ (by decide), rc 87 (by omega) (by omega)]
    by_cases c4 : w 83 i = 4
    · have f := f50 1 (if_pos c4)
      simp (disch := (first | omega | (simp (disch := omega) only [zu1, zu2, zu3, nIi, g2, k83, c4]; omega))) only [if_true, if_false, zE10, zE00, zOkN, Nat.reduceAdd, Nat.reduceMul, zcl_s, zif01, zbn_e, nIi, nI_clamp, nI_add, nI_1, pk_mul, zgi, zlt, zle, Int32.zero_add, Int32.add_zero, C0, C1, G0, G1, Nat.zero_add, Nat.add_zero, l2, l3, l4, l5, l6, l7, l8, l10, l11, l12, l20, l30, l48, l50, l60, l100, l120, l140, l152, l164, l176, l188, l200, l212, l224, l1604, l1880, l2000, l2008, l2016, l2024, l2032, l2040, l2048, l2210, l2240, l2270, l2300, l2330, l2390, l2450, l2510, l2570, l2590, l2620, l2650, l2660, l2700, T0, T1, Tm1, Tm99, Tm999, p_within, p_in, p_isCell, p_isOwner, p_isDay11, p_isDay12, p_isTap11, p_isTaker11, if_pos, if_neg, p_isTap12, p_isTaker12, p_isGone, zu1, zu2, zu3, nIe, Nat.reduceSub, g2, k83, c4]
      exact f
    by_cases c5 : w 83 i = 5
    · have f := f50 2 ((if_neg c4).trans (if_pos c5))
      simp (disch := (first | omega | (simp (disch := omega) only [zu1, zu2, zu3, nIi, g2, k83, c5]; omega))) only [if_true, if_false, zE10, zE00, zOkN, Nat.reduceAdd, Nat.reduceMul, zcl_s, zif01, zbn_e, nIi, nI_clamp, nI_add, nI_1, pk_mul, zgi, zlt, zle, Int32.zero_add, Int32.add_zero, C0, C1, G0, G1, Nat.zero_add, Nat.add_zero, l2, l3, l4, l5, l6, l7, l8, l10, l11, l12, l20, l30, l48, l50, l60, l100, l120, l140, l152, l164, l176, l188, l200, l212, l224, l1604, l1880, l2000, l2008, l2016, l2024, l2032, l2040, l2048, l2210, l2240, l2270, l2300, l2330, l2390, l2450, l2510, l2570, l2590, l2620, l2650, l2660, l2700, T0, T1, Tm1, Tm99, Tm999, p_within, p_in, p_isCell, p_isOwner, p_isDay11, p_isDay12, p_isTap11, p_isTaker11, if_pos, if_neg, p_isTap12, p_isTaker12, p_isGone, zu1, zu2, zu3, nIe, Nat.reduceSub, g2, k83, c5]
      exact f
    · have f := f50 0 ((if_neg c4).trans (if_neg c5))
      have c4' : ¬ w 83 i = nI 4 := c4
      have c5' : ¬ w 83 i = nI 5 := c5
      simp (disch := (first | omega | (simp (disch := omega) only [zu1, zu2, zu3, nIi, g2, k83, c4', c5']; omega))) only [if_true, if_false, zE10, zE00, zOkN, Nat.reduceAdd, Nat.reduceMul, zcl_s, zif01, zbn_e, nIi, nI_clamp, nI_add, nI_1, pk_mul, zgi, zlt, zle, Int32.zero_add, Int32.add_zero, C0, C1, G0, G1, Nat.zero_add, Nat.add_zero, l2, l3, l4, l5, l6, l7, l8, l10, l11, l12, l20, l30, l48, l50, l60, l100, l120, l140, l152, l164, l176, l188, l200, l212, l224, l1604, l1880, l2000, l2008, l2016, l2024, l2032, l2040, l2048, l2210, l2240, l2270, l2300, l2330, l2390, l2450, l2510, l2570, l2590, l2620, l2650, l2660, l2700, T0, T1, Tm1, Tm99, Tm999, p_within, p_in, p_isCell, p_isOwner, p_isDay11, p_isDay12, p_isTap11, p_isTaker11, if_pos, if_neg, p_isTap12, p_isTaker12, p_isGone, zu1, zu2, zu3, nIe, Nat.reduceSub, g2, k83, c4', c5']
      exact f
  · intro u hu
    unfold mX12_rows mX12_rows_2
    refine zlp_R (R := fun (Y : Option (Unit × zWd)) => ∃ u' : zWd, Y = some ((), u') ∧ (∀ a, a ≠ 231 → a ≠ 240 → a ≠ 241 → u' a = u a) ∧ (∀ j, j < 10 ∨ 14 < j → u' 231 j = u 231 j) ∧ (∀ t, t < K → u' 241 t = R t) ∧ u' 240 = qLn R (w 87) K (u 240))
      (P := fun (i : Nat) (q : Int32 × zWd) => ∃ u' : zWd, q = (nI i, u') ∧ (∀ a, a ≠ 231 → a ≠ 240 → a ≠ 241 → u' a = u a) ∧ (∀ j, j < 10 ∨ 14 < j → u' 231 j = u 231 j) ∧ (∀ t, t < i → u' 241 t = R t) ∧ u' 240 = qLn R (w 87) i (u 240)) (n := K) (by unfold zFU; omega) ?_ ⟨u, rfl, fun _ _ _ _ => rfl, fun _ _ => rfl, fun t ht => by omega, rfl⟩
    rintro i hi q ⟨u1, rfl, g1, g2, g3, g4⟩ k hk
    simp only [mX12_rows_2b]
    have e232 : u1 232 = w 232 := (g1 232 (by decide) (by decide) (by decide)).trans hu
    by_cases e : i = K
    · subst e
      refine ⟨u1, ?_, g1, g2, g3, g4⟩
      simp (disch := (first | omega | (simp (disch := omega) only [zu1, zu2, zu3, nIi, e232, e2]; omega))) only [if_true, if_false, zE10, zE00, zOkN, Nat.reduceAdd, Nat.reduceMul, zcl_s, zif01, zbn_e, nIi, nI_clamp, nI_add, nI_1, pk_mul, zgi, zlt, zle, Int32.zero_add, Int32.add_zero, C0, C1, G0, G1, Nat.zero_add, Nat.add_zero, l2, l3, l4, l5, l6, l7, l8, l10, l11, l12, l20, l30, l48, l50, l60, l100, l120, l140, l152, l164, l176, l188, l200, l212, l224, l1604, l1880, l2000, l2008, l2016, l2024, l2032, l2040, l2048, l2210, l2240, l2270, l2300, l2330, l2390, l2450, l2510, l2570, l2590, l2620, l2650, l2660, l2700, T0, T1, Tm1, Tm99, Tm999, p_within, p_in, p_isCell, p_isOwner, p_isDay11, p_isDay12, p_isTap11, p_isTaker11, if_pos, if_neg, p_isTap12, p_isTaker12, p_isGone, zu1, zu2, zu3, nIe, Nat.reduceSub, e232, e2]
    have hiK : i < K := by omega
    obtain ⟨u2, j1, j2⟩ := rank i hiK u1 e232
    simp (disch := (first | omega | (simp (disch := omega) only [zu1, zu2, zu3, nIi, e232, e2, j1]; omega))) only [if_true, if_false, zE10, zE00, zOkN, Nat.reduceAdd, Nat.reduceMul, zcl_s, zif01, zbn_e, nIi, nI_clamp, nI_add, nI_1, pk_mul, zgi, zlt, zle, Int32.zero_add, Int32.add_zero, C0, C1, G0, G1, Nat.zero_add, Nat.add_zero, l2, l3, l4, l5, l6, l7, l8, l10, l11, l12, l20, l30, l48, l50, l60, l100, l120, l140, l152, l164, l176, l188, l200, l212, l224, l1604, l1880, l2000, l2008, l2016, l2024, l2032, l2040, l2048, l2210, l2240, l2270, l2300, l2330, l2390, l2450, l2510, l2570, l2590, l2620, l2650, l2660, l2700, T0, T1, Tm1, Tm99, Tm999, p_within, p_in, p_isCell, p_isOwner, p_isDay11, p_isDay12, p_isTap11, p_isTaker11, if_pos, if_neg, p_isTap12, p_isTaker12, p_isGone, zu1, zu2, zu3, nIe, Nat.reduceSub, e232, e2, j1]
    unfold mX12_rows_26
    have p240 : u2 240 = qLn R (w 87) i (u 240) := (j2.1 240 (by decide)).trans g4
    have hp : zup u2 241 i (R i) = qPw (zup u2 241 i (R i)) 240 (qLn R (w 87) i (u 240)) := by
      rw [← p240]
      conv => lhs; rw [← qPw_s (zup u2 241 i (R i)) 240]
      rw [zpE _ _ _ (show 240 ≠ 241 by decide)]
    rw [hp, s_insert12 (R := R) (S := w 87) k d (by omega) (fun j hj => ?_) (fun j hj => ?_) i _ zFU (Nat.le_refl i) (by unfold zFU; omega) (fun j hj => qLn_v i _ j hj)]
    · refine hk hiK _ ⟨_, rfl, fun a h1 h2 h3 => ?_, fun j hj => ?_, fun t ht => ?_, ?_⟩
      · rw [qPw_n _ _ h2, zpE _ _ _ h3, j2.1 a h1]; exact g1 a h1 h2 h3
      · rw [qPw_n _ _ (by decide), zpE _ _ _ (by decide), j2.2 j hj]; exact g2 j hj
      · rw [qPw_n _ _ (by decide)]
        by_cases et : t = i
        · rw [et, zu3]
        · rw [zu2 _ _ et, j2.1 241 (by decide)]; exact g3 t (by omega)
      · rw [qPw_e]; rfl
    · by_cases ej : j = i
      · rw [ej, zu3]
      · rw [zu2 _ _ ej, j2.1 241 (by decide)]; exact g3 j (by omega)
    · rw [zpE _ _ _ (by decide), j2.1 232 (by decide), e232]; exact (hsi j (by omega)).symm
