theorem qSf_i {lt : Int32 → Bool} {v : Int32} {m : Nat} : ∀ i (O : Nat → Int32), i ≤ m → (∀ j j', j ≤ m → j' ≤ m → j ≠ i → j' ≠ i → O j = O j' → j = j') → (∀ j, j ≤ m → j ≠ i → O j ≠ v) → ∀ j j', j ≤ m → j' ≤ m → qSf lt v i O j = qSf lt v i O j' → j = j'
  | 0, O, hi, h, hv, j, j', hj, hj' => by
    unfold qSf
    intro e
    by_cases c : j = 0
    · by_cases c' : j' = 0
      · omega
      · rw [c, qu_eq, qu_ne _ _ c'] at e; exact absurd e.symm (hv j' hj' c')
    · by_cases c' : j' = 0
      · rw [c', qu_eq, qu_ne _ _ c] at e; exact absurd e (hv j hj c)
      · rw [qu_ne _ _ c, qu_ne _ _ c'] at e; exact h j j' hj hj' c c' e
  | i + 1, O, hi, h, hv, j, j', hj, hj' => by
    unfold qSf
    by_cases c : lt (O i) = true
    · rw [if_pos c]
      refine qSf_i i _ (by omega) (fun a b ha hb na nb => ?_) (fun a ha na => ?_) j j' hj hj'
      · by_cases ea : a = i + 1
        · by_cases eb : b = i + 1
          · omega
          · rw [ea, qu_eq, qu_ne _ _ eb]
            intro q
            exact absurd (h i b (by omega) hb (by omega) eb q) (by omega)
        · by_cases eb : b = i + 1
          · rw [eb, qu_eq, qu_ne _ _ ea]
            intro q
            exact absurd (h a i ha (by omega) ea (by omega) q) (by omega)
          · rw [qu_ne _ _ ea, qu_ne _ _ eb]
            exact h a b ha hb ea eb
      · by_cases ea : a = i + 1
        · rw [ea, qu_eq]; exact hv i (by omega) (by omega)
        · rw [qu_ne _ _ ea]; exact hv a ha ea
    · rw [if_neg c]
      intro e
      by_cases c1 : j = i + 1
      · by_cases c' : j' = i + 1
        · omega
        · rw [c1, qu_eq, qu_ne _ _ c'] at e; exact absurd e.symm (hv j' hj' c')
      · by_cases c' : j' = i + 1
        · rw [c', qu_eq, qu_ne _ _ c1] at e; exact absurd e (hv j hj c1)
        · rw [qu_ne _ _ c1, qu_ne _ _ c'] at e; exact h j j' hj hj' c1 c' e
/-- no taker stands twice in THE ROW -/
theorem qLn_i {R S : Nat → Int32} : ∀ k (O : Nat → Int32), k ≤ 1000 → ∀ j j', j < k → j' < k → qLn R S k O j = qLn R S k O j' → j = j'
  | 0, _, _, _, _, hj, _ => by omega
  | k + 1, O, hk, j, j', hj, hj' => by
    unfold qLn
    refine qSf_i (m := k) k _ (Nat.le_refl k) (fun a b ha hb na nb => qLn_i k O (by omega) a b (by omega) (by omega)) (fun a ha na q => ?_) j j' (by omega) (by omega)
    obtain ⟨t, h1, h2⟩ := qLn_v (R := R) (S := S) k O a (by omega)
    rw [h2, nIe (by omega) (by omega)] at q
    omega
def qA1 (o G : Nat → Nat) (r : Nat) : Nat → Nat × (Nat → Int32) → Nat × (Nat → Int32)
  | 0, s => s
  | i + 1, s => if 0 < (qA1 o G r i s).1 ∧ r + 1 ≤ G (o i) then ((qA1 o G r i s).1 - 1, upd (qA1 o G r i s).2 (o i) ((qA1 o G r i s).2 (o i) + 1)) else qA1 o G r i s
def qA2 (o G : Nat → Nat) (K : Nat) : Nat → Nat × (Nat → Int32) → Nat × (Nat → Int32)
  | 0, s => s
  | r + 1, s => qA1 o G r K (qA2 o G K r s)
section QA
variable {o G : Nat → Nat} {r K : Nat} {s s' : Nat × (Nat → Int32)}
theorem qA1_0 {i : Nat} (h : (qA1 o G r i s).1 = 0) : ∀ m, qA1 o G r (i + m) s = qA1 o G r i s
  | 0 => rfl
  | m + 1 => by
    show qA1 o G r (i + m + 1) s = _
    conv => lhs; unfold qA1
    rw [qA1_0 h m, if_neg (by omega)]
theorem qA1_le : ∀ i, (qA1 o G r i s).1 ≤ s.1
  | 0 => Nat.le_refl _
  | i + 1 => by
    have := qA1_le i
    unfold qA1
    by_cases c : 0 < (qA1 o G r i s).1 ∧ r + 1 ≤ G (o i)
    · rw [if_pos c]; simp only; omega
    · rw [if_neg c]; exact this
theorem qA2_le : ∀ i, (qA2 o G K i s).1 ≤ s.1
  | 0 => Nat.le_refl _
  | i + 1 => by unfold qA2; exact Nat.le_trans (qA1_le K) (qA2_le i)
theorem qA1_j (ho : ∀ i, i < K → o i < K) (h : s.1 = s'.1 ∧ ∀ t, t < K → s.2 t = s'.2 t) : ∀ i, i ≤ K → (qA1 o G r i s).1 = (qA1 o G r i s').1 ∧ ∀ t, t < K → (qA1 o G r i s).2 t = (qA1 o G r i s').2 t
  | 0, _ => h
  | i + 1, hi => by
    obtain ⟨h1, h2⟩ := qA1_j ho h i (by omega)
    unfold qA1
    rw [h1]
    by_cases c : 0 < (qA1 o G r i s').1 ∧ r + 1 ≤ G (o i)
    · rw [if_pos c, if_pos c]
      refine ⟨rfl, fun t ht => ?_⟩
      simp only
      rw [h2 _ (ho i (by omega))]
      by_cases e : t = o i
      · rw [e, qu_eq, qu_eq]
      · rw [qu_ne _ _ e, qu_ne _ _ e]; exact h2 t ht
    · rw [if_neg c, if_neg c]; exact ⟨h1, h2⟩
theorem qA2_j (ho : ∀ i, i < K → o i < K) (h : s.1 = s'.1 ∧ ∀ t, t < K → s.2 t = s'.2 t) : ∀ i, (qA2 o G K i s).1 = (qA2 o G K i s').1 ∧ ∀ t, t < K → (qA2 o G K i s).2 t = (qA2 o G K i s').2 t
  | 0 => h
  | i + 1 => by unfold qA2; exact qA1_j ho (qA2_j ho h i) K (Nat.le_refl K)
/-- while there is something left, each has got its gallon of each round -/
def qAi (o G : Nat → Nat) (K r i : Nat) (s : Nat × (Nat → Int32)) : Prop := 0 < s.1 → ∀ j, j < K → s.2 (o j) = nI (if G (o j) ≤ (if j < i then r + 1 else r) then G (o j) else (if j < i then r + 1 else r))
theorem qAi_1 (hi1 : ∀ j j', j < K → j' < K → o j = o j' → j = j') (h : qAi o G K r 0 s) : ∀ i, i ≤ K → qAi o G K r i (qA1 o G r i s)
  | 0, _ => h
  | i + 1, hi => by
    have ih := qAi_1 hi1 h i (by omega)
    intro hp j hj
    have hle : 0 < (qA1 o G r i s).1 := by
      unfold qA1 at hp
      by_cases c : 0 < (qA1 o G r i s).1 ∧ r + 1 ≤ G (o i)
      · exact c.1
      · rw [if_neg c] at hp; exact hp
    have ih2 := ih hle
    unfold qA1
    by_cases c : r + 1 ≤ G (o i)
    · rw [if_pos ⟨hle, c⟩]
      simp only
      by_cases e : j = i
      · rw [e, qu_eq, ih2 i (by omega), if_neg (show ¬ i < i by omega), if_pos (show i < i + 1 by omega), ← nI_succ]
        congr 1
        by_cases c2 : G (o i) ≤ r + 1
        · rw [if_neg (show ¬ G (o i) ≤ r by omega), if_pos c2]; omega
        · rw [if_neg (show ¬ G (o i) ≤ r by omega), if_neg c2]
      · rw [qu_ne _ _ (fun q => e (hi1 j i hj (by omega) q)), ih2 j hj]
        by_cases c3 : j < i
        · rw [if_pos c3, if_pos (show j < i + 1 by omega)]
        · rw [if_neg c3, if_neg (show ¬ j < i + 1 by omega)]
    · rw [if_neg (fun q => c q.2), ih2 j hj]
      by_cases e : j = i
      · rw [e, if_neg (show ¬ i < i by omega), if_pos (show i < i + 1 by omega), if_pos (show G (o i) ≤ r by omega), if_pos (show G (o i) ≤ r + 1 by omega)]
      · by_cases c3 : j < i
        · rw [if_pos c3, if_pos (show j < i + 1 by omega)]
        · rw [if_neg c3, if_neg (show ¬ j < i + 1 by omega)]
theorem qAi_n (h : qAi o G K r K s) : qAi o G K (r + 1) 0 s := fun hp j hj => by
  rw [h hp j hj, if_pos hj, if_neg (show ¬ j < 0 by omega)]
theorem qAi_2 (hi1 : ∀ j j', j < K → j' < K → o j = o j' → j = j') (h : qAi o G K 0 0 s) : ∀ r, qAi o G K r 0 (qA2 o G K r s)
  | 0 => h
  | r + 1 => by unfold qA2; exact qAi_n (qAi_1 hi1 (qAi_2 hi1 h r) K (Nat.le_refl K))
end QA
section QWu
variable {u : zWd} {K : Nat} {o G : Nat → Nat}
theorem s_alike11 (hK : K ≤ 8) (ho : ∀ i, i < K → o i < K) (hG : ∀ t, t < K → 1 ≤ G t ∧ G t ≤ 4) (c0 : u 217 0 = nI K) (c1 : ∀ i, i < K → u 219 i = nI (o i)) (c2 : ∀ t, t < K → u 85 t = nI (G t)) {n : Nat} (hn : n ≤ 999) : mX11_partAlike 0 (nI n) u = some ((), qPw u 229 (qA2 o G K 4 (n, qUp (fun j => j) (fun _ => 0) K (u 229))).2) := by
  unfold mX11_partAlike mX11_partAlike_2
  refine zlp_to (P := fun (i : Nat) (q : Int32 × zWd) => q = (nI i, qPw u 229 (qUp (fun j => j) (fun _ => 0) i (u 229)))) (n := K) (by unfold zFU; omega) ?_ (by show _ = (nI 0, qPw u 229 (u 229)); rw [qPw_s]; rfl)
  rintro i hi q rfl k hk
  simp only [mX11_partAlike_2b]
  by_cases e : i = K
  rotate_left
  · have h1 := hk (by omega) (nI (i + 1), qPw u 229 (upd (qUp (fun j => j) (fun _ => 0) i (u 229)) i 0)) rfl
    simp (disch := (first | omega | (simp (disch := omega) only [zu1, zu2, zu3, nIi, c0, qPw_n, qPw_uu]; omega))) only [if_true, if_false, zE10, zE00, zOkN, Nat.reduceAdd, Nat.reduceMul, zcl_s, zif01, zbn_e, nIi, nI_clamp, nI_add, nI_1, pk_mul, zgi, zlt, zle, Int32.zero_add, Int32.add_zero, C0, C1, G0, G1, Nat.zero_add, Nat.add_zero, l2, l3, l4, l5, l6, l7, l8, l10, l11, l12, l20, l30, l48, l50, l60, l100, l120, l140, l152, l164, l176, l188, l200, l212, l224, l1604, l1880, l2000, l2008, l2016, l2024, l2032, l2040, l2048, l2210, l2240, l2270, l2300, l2330, l2390, l2450, l2510, l2570, l2590, l2620, l2650, l2660, l2700, T0, T1, Tm1, Tm99, Tm999, p_within, p_in, p_isCell, p_isOwner, p_isDay11, p_isDay12, p_isTap11, p_isTaker11, if_pos, if_neg, p_isTap12, p_isTaker12, p_isGone, zu1, zu2, zu3, nIe, Nat.reduceSub, c0, qPw_n, qPw_uu]
    exact h1
  subst e
  clear hk hi
  generalize qUp (fun j => j) (fun _ => 0) i (u 229) = P0
  have main : mX11_partAlike_30 0 (nI n) 1 (qPw u 229 P0) = some ((), qPw u 229 (qA2 o G i 4 (n, P0)).2) := by
    unfold mX11_partAlike_30
    refine zlp_to (P := fun (r : Nat) (q : Int32 × Int32 × zWd) => q = (nI (qA2 o G i r (n, P0)).1, nI (r + 1), qPw u 229 (qA2 o G i r (n, P0)).2)) (n := 4) (by unfold zFU; omega) ?_ rfl
    rintro r hr q rfl k30 hk30
    simp only [mX11_partAlike_30b]
    by_cases er : r = 4
    · subst er
      simp (disch := (first | omega | (simp (disch := omega) only [zu1, zu2, zu3, nIi]; omega))) only [if_true, if_false, zE10, zE00, zOkN, Nat.reduceAdd, Nat.reduceMul, zcl_s, zif01, zbn_e, nIi, nI_clamp, nI_add, nI_1, pk_mul, zgi, zlt, zle, Int32.zero_add, Int32.add_zero, C0, C1, G0, G1, Nat.zero_add, Nat.add_zero, l2, l3, l4, l5, l6, l7, l8, l10, l11, l12, l20, l30, l48, l50, l60, l100, l120, l140, l152, l164, l176, l188, l200, l212, l224, l1604, l1880, l2000, l2008, l2016, l2024, l2032, l2040, l2048, l2210, l2240, l2270, l2300, l2330, l2390, l2450, l2510, l2570, l2590, l2620, l2650, l2660, l2700, T0, T1, Tm1, Tm99, Tm999, p_within, p_in, p_isCell, p_isOwner, p_isDay11, p_isDay12, p_isTap11, p_isTaker11, if_pos, if_neg, p_isTap12, p_isTaker12, p_isGone, zu1, zu2, zu3, nIe, Nat.reduceSub]
    have hk30' := hk30 (by omega) _ rfl
    have hle : (qA2 o G i r (n, P0)).1 ≤ 999 := Nat.le_trans (qA2_le r) hn
    show (if (4 : Int32) < nI (r + 1) then _ else mX11_partAlike_38 k30 0 (nI (r + 1)) (nI (qA2 o G i r (n, P0)).1) 0 (qPw u 229 (qA2 o G i r (n, P0)).2)) = _
    rw [if_neg (by rw [zlt, T4, nIi (by omega)]; omega)]
    change k30 (nI (qA1 o G r i (qA2 o G i r (n, P0))).1, nI (r + 1 + 1), qPw u 229 (qA1 o G r i (qA2 o G i r (n, P0))).2) = _ at hk30'
    generalize qA2 o G i r (n, P0) = s at hk30' hle ⊢
    rw [← hk30']
    unfold mX11_partAlike_38
    refine zlp_to (P := fun (j : Nat) (q : Int32 × Int32 × zWd) => q = (nI (qA1 o G r j s).1, nI j, qPw u 229 (qA1 o G r j s).2)) (n := i) (by unfold zFU; omega) ?_ rfl
    rintro j hj q rfl k38 hk38
    simp only [mX11_partAlike_38b, mX11_partAlike_103, mX11_partAlike_97]
    have hl2 : (qA1 o G r j s).1 ≤ 999 := Nat.le_trans (qA1_le j) hle
    by_cases ej : j = i
    · subst ej
      simp (disch := (first | omega | (simp (disch := omega) only [zu1, zu2, zu3, nIi, c0, qPw_n]; omega))) only [if_true, if_false, zE10, zE00, zOkN, Nat.reduceAdd, Nat.reduceMul, zcl_s, zif01, zbn_e, nIi, nI_clamp, nI_add, nI_1, pk_mul, zgi, zlt, zle, Int32.zero_add, Int32.add_zero, C0, C1, G0, G1, Nat.zero_add, Nat.add_zero, l2, l3, l4, l5, l6, l7, l8, l10, l11, l12, l20, l30, l48, l50, l60, l100, l120, l140, l152, l164, l176, l188, l200, l212, l224, l1604, l1880, l2000, l2008, l2016, l2024, l2032, l2040, l2048, l2210, l2240, l2270, l2300, l2330, l2390, l2450, l2510, l2570, l2590, l2620, l2650, l2660, l2700, T0, T1, Tm1, Tm99, Tm999, p_within, p_in, p_isCell, p_isOwner, p_isDay11, p_isDay12, p_isTap11, p_isTaker11, if_pos, if_neg, p_isTap12, p_isTaker12, p_isGone, zu1, zu2, zu3, nIe, Nat.reduceSub, c0, qPw_n]
    by_cases hz : (qA1 o G r j s).1 = 0
    · have h3 := qA1_0 hz (i - j)
      rw [show j + (i - j) = i by omega] at h3
      rw [h3, hz]
      simp (disch := (first | omega | (simp (disch := omega) only [zu1, zu2, zu3, nIi, c0, qPw_n]; omega))) only [if_true, if_false, zE10, zE00, zOkN, Nat.reduceAdd, Nat.reduceMul, zcl_s, zif01, zbn_e, nIi, nI_clamp, nI_add, nI_1, pk_mul, zgi, zlt, zle, Int32.zero_add, Int32.add_zero, C0, C1, G0, G1, Nat.zero_add, Nat.add_zero, l2, l3, l4, l5, l6, l7, l8, l10, l11, l12, l20, l30, l48, l50, l60, l100, l120, l140, l152, l164, l176, l188, l200, l212, l224, l1604, l1880, l2000, l2008, l2016, l2024, l2032, l2040, l2048, l2210, l2240, l2270, l2300, l2330, l2390, l2450, l2510, l2570, l2590, l2620, l2650, l2660, l2700, T0, T1, Tm1, Tm99, Tm999, p_within, p_in, p_isCell, p_isOwner, p_isDay11, p_isDay12, p_isTap11, p_isTaker11, if_pos, if_neg, p_isTap12, p_isTaker12, p_isGone, zu1, zu2, zu3, nIe, Nat.reduceSub, c0, qPw_n]
    have hj2 : j < i := by omega
    have hy1 := c1 j hj2
    have hy2 := c2 _ (ho j hj2)
    have hy3 := ho j hj2
    have hy4 := hG _ (ho j hj2)
    have em : nI (qA1 o G r j s).1 + -1 = nI ((qA1 o G r j s).1 - 1) := by
      have := nI_m1 (i := (qA1 o G r j s).1 - 1)
      rwa [show (qA1 o G r j s).1 - 1 + 1 = (qA1 o G r j s).1 by omega] at this
    have hk38' := hk38 hj2 _ rfl
    by_cases c : r + 1 ≤ G (o j)
    · have est : qA1 o G r (j + 1) s = ((qA1 o G r j s).1 - 1, upd (qA1 o G r j s).2 (o j) ((qA1 o G r j s).2 (o j) + 1)) := if_pos ⟨by omega, c⟩
      rw [est] at hk38'
      simp (disch := (first | omega | (simp (disch := omega) only [zu1, zu2, zu3, nIi, c0, qPw_n, qPw_e, qPw_uu, hy1, hy2, em]; omega))) only [if_true, if_false, zE10, zE00, zOkN, Nat.reduceAdd, Nat.reduceMul, zcl_s, zif01, zbn_e, nIi, nI_clamp, nI_add, nI_1, pk_mul, zgi, zlt, zle, Int32.zero_add, Int32.add_zero, C0, C1, G0, G1, Nat.zero_add, Nat.add_zero, l2, l3, l4, l5, l6, l7, l8, l10, l11, l12, l20, l30, l48, l50, l60, l100, l120, l140, l152, l164, l176, l188, l200, l212, l224, l1604, l1880, l2000, l2008, l2016, l2024, l2032, l2040, l2048, l2210, l2240, l2270, l2300, l2330, l2390, l2450, l2510, l2570, l2590, l2620, l2650, l2660, l2700, T0, T1, Tm1, Tm99, Tm999, p_within, p_in, p_isCell, p_isOwner, p_isDay11, p_isDay12, p_isTap11, p_isTaker11, if_pos, if_neg, p_isTap12, p_isTaker12, p_isGone, zu1, zu2, zu3, nIe, Nat.reduceSub, c0, qPw_n, qPw_e, qPw_uu, hy1, hy2, em]
      exact hk38'
    · have est : qA1 o G r (j + 1) s = qA1 o G r j s := if_neg (fun q => c q.2)
      rw [est] at hk38'
      simp (disch := (first | omega | (simp (disch := omega) only [zu1, zu2, zu3, nIi, c0, qPw_n, qPw_e, qPw_uu, hy1, hy2]; omega))) only [if_true, if_false, zE10, zE00, zOkN, Nat.reduceAdd, Nat.reduceMul, zcl_s, zif01, zbn_e, nIi, nI_clamp, nI_add, nI_1, pk_mul, zgi, zlt, zle, Int32.zero_add, Int32.add_zero, C0, C1, G0, G1, Nat.zero_add, Nat.add_zero, l2, l3, l4, l5, l6, l7, l8, l10, l11, l12, l20, l30, l48, l50, l60, l100, l120, l140, l152, l164, l176, l188, l200, l212, l224, l1604, l1880, l2000, l2008, l2016, l2024, l2032, l2040, l2048, l2210, l2240, l2270, l2300, l2330, l2390, l2450, l2510, l2570, l2590, l2620, l2650, l2660, l2700, T0, T1, Tm1, Tm99, Tm999, p_within, p_in, p_isCell, p_isOwner, p_isDay11, p_isDay12, p_isTap11, p_isTaker11, if_pos, if_neg, p_isTap12, p_isTaker12, p_isGone, zu1, zu2, zu3, nIe, Nat.reduceSub, c0, qPw_n, qPw_e, qPw_uu, hy1, hy2]
      exact hk38'
  simp (disch := (first | omega | (simp (disch := omega) only [zu1, zu2, zu3, nIi, c0, qPw_n]; omega))) only [if_true, if_false, zE10, zE00, zOkN, Nat.reduceAdd, Nat.reduceMul, zcl_s, zif01, zbn_e, nIi, nI_clamp, nI_add, nI_1, pk_mul, zgi, zlt, zle, Int32.zero_add, Int32.add_zero, C0, C1, G0, G1, Nat.zero_add, Nat.add_zero, l2, l3, l4, l5, l6, l7, l8, l10, l11, l12, l20, l30, l48, l50, l60, l100, l120, l140, l152, l164, l176, l188, l200, l212, l224, l1604, l1880, l2000, l2008, l2016, l2024, l2032, l2040, l2048, l2210, l2240, l2270, l2300, l2330, l2390, l2450, l2510, l2570, l2590, l2620, l2650, l2660, l2700, T0, T1, Tm1, Tm99, Tm999, p_within, p_in, p_isCell, p_isOwner, p_isDay11, p_isDay12, p_isTap11, p_isTaker11, if_pos, if_neg, p_isTap12, p_isTaker12, p_isGone, zu1, zu2, zu3, nIe, Nat.reduceSub, c0, qPw_n]
  exact main
theorem s_alike12 (hK : K ≤ 8) (ho : ∀ i, i < K → o i < K) (hi1 : ∀ j j', j < K → j' < K → o j = o j' → j = j') (hG : ∀ t, t < K → 1 ≤ G t ∧ G t ≤ 4) (c0 : u 232 3 = nI K) (c1 : ∀ i, i < K → u 240 i = nI (o i)) (c2 : ∀ t, t < K → u 232 (2016 + t) = nI (G t)) {n t : Nat} (hn : n ≤ 999) (ht : t < 8) (hz : ∀ j, j < K → u 246 j = 0) : mX12_want_281 231 (nI t) (nI n) 0 u = some ((qA2 o G K 4 (n, u 246)).2 t, qPw u 246 (qA2 o G K 4 (n, u 246)).2) := by
  have hA0 : qAi o G K 0 0 (n, u 246) := fun _ j hj => by
    rw [if_neg (show ¬ j < 0 by omega), if_neg (by have := hG _ (ho j hj); omega)]
    exact hz _ (ho j hj)
  unfold mX12_want_281
  refine zlp_to (P := fun (r : Nat) (q : Int32 × Int32 × zWd) => q = (nI (qA2 o G K r (n, u 246)).1, nI r, qPw u 246 (qA2 o G K r (n, u 246)).2)) (n := 4) (by unfold zFU; omega) ?_ (by show _ = (nI n, nI 0, qPw u 246 (u 246)); rw [qPw_s]; rfl)
  rintro r hr q rfl k30 hk30
  simp only [mX12_want_281b, mX12_want_396]
  by_cases er : r = 4
  · subst er
    simp (disch := (first | omega | (simp (disch := omega) only [zu1, zu2, zu3, nIi, qPw_e]; omega))) only [if_true, if_false, zE10, zE00, zOkN, Nat.reduceAdd, Nat.reduceMul, zcl_s, zif01, zbn_e, nIi, nI_clamp, nI_add, nI_1, pk_mul, zgi, zlt, zle, Int32.zero_add, Int32.add_zero, C0, C1, G0, G1, Nat.zero_add, Nat.add_zero, l2, l3, l4, l5, l6, l7, l8, l10, l11, l12, l20, l30, l48, l50, l60, l100, l120, l140, l152, l164, l176, l188, l200, l212, l224, l1604, l1880, l2000, l2008, l2016, l2024, l2032, l2040, l2048, l2210, l2240, l2270, l2300, l2330, l2390, l2450, l2510, l2570, l2590, l2620, l2650, l2660, l2700, T0, T1, Tm1, Tm99, Tm999, p_within, p_in, p_isCell, p_isOwner, p_isDay11, p_isDay12, p_isTap11, p_isTaker11, if_pos, if_neg, p_isTap12, p_isTaker12, p_isGone, zu1, zu2, zu3, nIe, Nat.reduceSub, qPw_e]
  have hk30' := hk30 (by omega) _ rfl
  have hle : (qA2 o G K r (n, u 246)).1 ≤ 999 := Nat.le_trans (qA2_le r) hn
  rw [if_neg (show ¬ (4 : Int32) ≤ nI r by rw [zle, T4, nIi (by omega)]; omega)]
  have hAr := qAi_2 hi1 hA0 r
  change k30 (nI (qA1 o G r K (qA2 o G K r (n, u 246))).1, nI (r + 1), qPw u 246 (qA1 o G r K (qA2 o G K r (n, u 246))).2) = _ at hk30'
  rw [← hk30']
  clear hk30'
  generalize qA2 o G K r (n, u 246) = s at hle hAr ⊢
  unfold mX12_want_290
  refine zlp_to (P := fun (j : Nat) (q : Int32 × Int32 × zWd) => q = (nI (qA1 o G r j s).1, nI j, qPw u 246 (qA1 o G r j s).2)) (n := K) (by unfold zFU; omega) ?_ rfl
  rintro j hj q rfl k38 hk38
  simp only [mX12_want_290b, mX12_want_341, mX12_want_342, mX12_want_367, mX12_want_381]
  have hl2 : (qA1 o G r j s).1 ≤ 999 := Nat.le_trans (qA1_le j) hle
  by_cases ej : j = K
  · subst ej
    simp (disch := (first | omega | (simp (disch := omega) only [zu1, zu2, zu3, nIi, c0, qPw_n]; omega))) only [if_true, if_false, zE10, zE00, zOkN, Nat.reduceAdd, Nat.reduceMul, zcl_s, zif01, zbn_e, nIi, nI_clamp, nI_add, nI_1, pk_mul, zgi, zlt, zle, Int32.zero_add, Int32.add_zero, C0, C1, G0, G1, Nat.zero_add, Nat.add_zero, l2, l3, l4, l5, l6, l7, l8, l10, l11, l12, l20, l30, l48, l50, l60, l100, l120, l140, l152, l164, l176, l188, l200, l212, l224, l1604, l1880, l2000, l2008, l2016, l2024, l2032, l2040, l2048, l2210, l2240, l2270, l2300, l2330, l2390, l2450, l2510, l2570, l2590, l2620, l2650, l2660, l2700, T0, T1, Tm1, Tm99, Tm999, p_within, p_in, p_isCell, p_isOwner, p_isDay11, p_isDay12, p_isTap11, p_isTaker11, if_pos, if_neg, p_isTap12, p_isTaker12, p_isGone, zu1, zu2, zu3, nIe, Nat.reduceSub, c0, qPw_n]
  have hj2 : j < K := by omega
  have hy1 := c1 j hj2
  have hy2 := c2 _ (ho j hj2)
  have hy3 := ho j hj2
  have hy4 := hG _ (ho j hj2)
  have hk38' := hk38 hj2 _ rfl
  have i10 : ((1 : Int32) = 0) = False := by simp
  by_cases hz0 : (qA1 o G r j s).1 = 0
  · have est : qA1 o G r (j + 1) s = qA1 o G r j s := qA1_0 hz0 1
    rw [est, hz0] at hk38'
    rw [hz0]
    simp (disch := (first | omega | (simp (disch := omega) only [zu1, zu2, zu3, nIi, c0, qPw_n, qPw_e, qPw_uu, hy1, hy2, upd_id, Int32.sub_zero]; omega))) only [if_true, if_false, zE10, zE00, zOkN, Nat.reduceAdd, Nat.reduceMul, zcl_s, zif01, zbn_e, nIi, nI_clamp, nI_add, nI_1, pk_mul, zgi, zlt, zle, Int32.zero_add, Int32.add_zero, C0, C1, G0, G1, Nat.zero_add, Nat.add_zero, l2, l3, l4, l5, l6, l7, l8, l10, l11, l12, l20, l30, l48, l50, l60, l100, l120, l140, l152, l164, l176, l188, l200, l212, l224, l1604, l1880, l2000, l2008, l2016, l2024, l2032, l2040, l2048, l2210, l2240, l2270, l2300, l2330, l2390, l2450, l2510, l2570, l2590, l2620, l2650, l2660, l2700, T0, T1, Tm1, Tm99, Tm999, p_within, p_in, p_isCell, p_isOwner, p_isDay11, p_isDay12, p_isTap11, p_isTaker11, if_pos, if_neg, p_isTap12, p_isTaker12, p_isGone, zu1, zu2, zu3, nIe, Nat.reduceSub, c0, qPw_n, qPw_e, qPw_uu, hy1, hy2, upd_id, Int32.sub_zero]
    exact hk38'
  have hAj := qAi_1 hi1 hAr j hj (by omega) j hj2
  rw [if_neg (show ¬ j < j by omega)] at hAj
  have em : nI (qA1 o G r j s).1 - 1 = nI ((qA1 o G r j s).1 - 1) := pk_sub (b := 1) (by omega)
  by_cases c : r + 1 ≤ G (o j)
  · rw [if_neg (by omega)] at hAj
    have est : qA1 o G r (j + 1) s = ((qA1 o G r j s).1 - 1, upd (qA1 o G r j s).2 (o j) ((qA1 o G r j s).2 (o j) + 1)) := if_pos ⟨by omega, c⟩
    rw [est, hAj] at hk38'
    rw [nI_1] at hk38'
    simp (disch := (first | omega | (simp (disch := omega) only [zu1, zu2, zu3, nIi, c0, qPw_n, qPw_e, qPw_uu, hy1, hy2, em, hAj, i10]; omega))) only [if_true, if_false, zE10, zE00, zOkN, Nat.reduceAdd, Nat.reduceMul, zcl_s, zif01, zbn_e, nIi, nI_clamp, nI_add, nI_1, pk_mul, zgi, zlt, zle, Int32.zero_add, Int32.add_zero, C0, C1, G0, G1, Nat.zero_add, Nat.add_zero, l2, l3, l4, l5, l6, l7, l8, l10, l11, l12, l20, l30, l48, l50, l60, l100, l120, l140, l152, l164, l176, l188, l200, l212, l224, l1604, l1880, l2000, l2008, l2016, l2024, l2032, l2040, l2048, l2210, l2240, l2270, l2300, l2330, l2390, l2450, l2510, l2570, l2590, l2620, l2650, l2660, l2700, T0, T1, Tm1, Tm99, Tm999, p_within, p_in, p_isCell, p_isOwner, p_isDay11, p_isDay12, p_isTap11, p_isTaker11, if_pos, if_neg, p_isTap12, p_isTaker12, p_isGone, zu1, zu2, zu3, nIe, Nat.reduceSub, c0, qPw_n, qPw_e, qPw_uu, hy1, hy2, em, hAj, i10]
    exact hk38'
  · rw [if_pos (by omega)] at hAj
    have est : qA1 o G r (j + 1) s = qA1 o G r j s := if_neg (fun q => c q.2)
    rw [est] at hk38'
    have eu : upd (qA1 o G r j s).2 (o j) (nI (G (o j))) = (qA1 o G r j s).2 := by rw [← hAj, upd_id]
    simp (disch := (first | omega | (simp (disch := omega) only [zu1, zu2, zu3, nIi, c0, qPw_n, qPw_e, qPw_uu, hy1, hy2, hAj, eu, Int32.sub_zero]; omega))) only [if_true, if_false, zE10, zE00, zOkN, Nat.reduceAdd, Nat.reduceMul, zcl_s, zif01, zbn_e, nIi, nI_clamp, nI_add, nI_1, pk_mul, zgi, zlt, zle, Int32.zero_add, Int32.add_zero, C0, C1, G0, G1, Nat.zero_add, Nat.add_zero, l2, l3, l4, l5, l6, l7, l8, l10, l11, l12, l20, l30, l48, l50, l60, l100, l120, l140, l152, l164, l176, l188, l200, l212, l224, l1604, l1880, l2000, l2008, l2016, l2024, l2032, l2040, l2048, l2210, l2240, l2270, l2300, l2330, l2390, l2450, l2510, l2570, l2590, l2620, l2650, l2660, l2700, T0, T1, Tm1, Tm99, Tm999, p_within, p_in, p_isCell, p_isOwner, p_isDay11, p_isDay12, p_isTap11, p_isTaker11, if_pos, if_neg, p_isTap12, p_isTaker12, p_isGone, zu1, zu2, zu3, nIe, Nat.reduceSub, c0, qPw_n, qPw_e, qPw_uu, hy1, hy2, hAj, eu, Int32.sub_zero]
    exact hk38'
end QWu
