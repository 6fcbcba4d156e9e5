section QWg
variable {u : zWd} {K : Nat} {o G : Nat → Nat}
theorem s_gal11 (hK : K ≤ 8) (hK0 : 0 < K) (ho : ∀ i, i < K → o i < K) (hG : ∀ t, t < K → 1 ≤ G t ∧ G t ≤ 4) (c0 : u 217 0 = nI K) (c1 : ∀ i, i < K → u 219 i = nI (o i)) (c2 : ∀ t, t < K → u 85 t = nI (G t)) {n : Nat} (hn : n ≤ 999) : mX11_partByGallons 0 (nI n) u = some ((), qPw u 229 (qIn o (n - qSm (fun j => n * G j / qSm G K) K) (qUp (fun j => j) (fun j => nI (n * G j / qSm G K)) K (u 229)))) := by
  have hA4 : qSm G K ≤ K * 4 := qSm_le2 (fun i hi => (hG i hi).2) K (Nat.le_refl K)
  have hA0 : 0 < qSm G K := by
    have h1 := qSm_mono G 1 K hK0
    have h2 := (hG 0 hK0).1
    have h3 : qSm G 1 = 0 + G 0 := rfl
    omega
  obtain ⟨hS, hL⟩ := qSm_rest (n := n) hK0 hA0
  have hmono := fun i (hi : i ≤ K) => qSm_mono (fun j => n * G j / qSm G K) i K hi
  have hAi := fun i (hi : i ≤ K) => qSm_mono G i K hi
  unfold mX11_partByGallons mX11_partByGallons_4
  refine zlp_to (P := fun (i : Nat) (q : Int32 × Int32 × zWd) => q = (nI (qSm G i), nI i, u)) (n := K) (by unfold zFU; omega) ?_ rfl
  rintro i hi q rfl k hk
  simp only [mX11_partByGallons_4b]
  by_cases e : i = K
  rotate_left
  · have h1 := hk (by omega) (nI (qSm G i + G i), nI (i + 1), u) rfl
    have hy := c2 i (by omega)
    simp (disch := (first | omega | (simp (disch := omega) only [zu1, zu2, zu3, nIi, c0, hy]; omega))) only [if_true, if_false, zE10, zE00, zOkN, Nat.reduceAdd, Nat.reduceMul, zcl_s, zif01, zbn_e, nIi, nI_clamp, nI_add, nI_1, pk_mul, zgi, zlt, zle, Int32.zero_add, Int32.add_zero, C0, C1, G0, G1, Nat.zero_add, Nat.add_zero, l2, l3, l4, l5, l6, l7, l8, l10, l11, l12, l20, l30, l48, l50, l60, l100, l120, l140, l152, l164, l176, l188, l200, l212, l224, l1604, l1880, l2000, l2008, l2016, l2024, l2032, l2040, l2048, l2210, l2240, l2270, l2300, l2330, l2390, l2450, l2510, l2570, l2590, l2620, l2650, l2660, l2700, T0, T1, Tm1, Tm99, Tm999, p_within, p_in, p_isCell, p_isOwner, p_isDay11, p_isDay12, p_isTap11, p_isTaker11, if_pos, if_neg, p_isTap12, p_isTaker12, p_isGone, zu1, zu2, zu3, nIe, Nat.reduceSub, c0, hy]
    exact h1
  subst e
  clear hk hi
  generalize hAA : qSm G i = A at *
  have hAn : ¬ (nI A : Int32) = 0 := fun q => by rw [show (0 : Int32) = nI 0 from rfl, nIe (by omega) (by omega)] at q; omega
  have lp2 : mX11_partByGallons_41 0 (nI n) (nI A) (nI n) 0 u = some ((), qPw u 229 (qIn o (n - qSm (fun j => n * G j / A) i) (qUp (fun j => j) (fun j => nI (n * G j / A)) i (u 229)))) := by
    unfold mX11_partByGallons_41
    refine zlp_to (P := fun (j : Nat) (q : Int32 × Int32 × zWd) => q = (nI (n - qSm (fun j => n * G j / A) j), nI j, qPw u 229 (qUp (fun j => j) (fun j => nI (n * G j / A)) j (u 229)))) (n := i) (by unfold zFU; omega) ?_ (by show _ = (nI n, nI 0, qPw u 229 (u 229)); rw [qPw_s]; rfl)
    rintro j hj q rfl k hk
    simp only [mX11_partByGallons_41b, mX11_partByGallons_97]
    by_cases ej : j = i
    rotate_left
    · have hj2 : j < i := by omega
      have hy := c2 j hj2
      have hy2 := hG j hj2
      have hle : n * G j ≤ 999 * 4 := Nat.mul_le_mul hn hy2.2
      have hd : nI (n * G j) / nI A = nI (n * G j / A) := pk_div (by omega) hA0 (by omega)
      have hs1 : qSm (fun j => n * G j / A) (j + 1) = qSm (fun j => n * G j / A) j + n * G j / A := rfl
      have hs2 := hmono (j + 1) hj2
      have hsub : nI (n - qSm (fun j => n * G j / A) j) - nI (n * G j / A) = nI (n - qSm (fun j => n * G j / A) (j + 1)) := by
        rw [pk_sub (by omega), hs1]; congr 1; omega
      have h1 := hk hj2 (nI (n - qSm (fun j => n * G j / A) (j + 1)), nI (j + 1), qPw u 229 (upd (qUp (fun j => j) (fun j => nI (n * G j / A)) j (u 229)) j (nI (n * G j / A)))) rfl
      simp (disch := (first | omega | (simp (disch := omega) only [zu1, zu2, zu3, nIi, c0, qPw_n, qPw_e, qPw_uu, qu_eq, hy, zgd_t hAn, hd, hsub]; omega))) only [if_true, if_false, zE10, zE00, zOkN, Nat.reduceAdd, Nat.reduceMul, zcl_s, zif01, zbn_e, nIi, nI_clamp, nI_add, nI_1, pk_mul, zgi, zlt, zle, Int32.zero_add, Int32.add_zero, C0, C1, G0, G1, Nat.zero_add, Nat.add_zero, l2, l3, l4, l5, l6, l7, l8, l10, l11, l12, l20, l30, l48, l50, l60, l100, l120, l140, l152, l164, l176, l188, l200, l212, l224, l1604, l1880, l2000, l2008, l2016, l2024, l2032, l2040, l2048, l2210, l2240, l2270, l2300, l2330, l2390, l2450, l2510, l2570, l2590, l2620, l2650, l2660, l2700, T0, T1, Tm1, Tm99, Tm999, p_within, p_in, p_isCell, p_isOwner, p_isDay11, p_isDay12, p_isTap11, p_isTaker11, if_pos, if_neg, p_isTap12, p_isTaker12, p_isGone, zu1, zu2, zu3, nIe, Nat.reduceSub, c0, qPw_n, qPw_e, qPw_uu, qu_eq, hy, zgd_t hAn, hd, hsub]
      exact h1
    subst ej
    clear hk hj
    generalize n - qSm (fun j => n * G j / A) j = L at *
    generalize qUp (fun j => j) (fun j => nI (n * G j / A)) j (u 229) = P1
    have lp3 : mX11_partByGallons_100 0 (nI L) 0 (qPw u 229 P1) = some ((), qPw u 229 (qIn o L P1)) := by
      unfold mX11_partByGallons_100
      refine zlp_to (P := fun (m : Nat) (q : Int32 × zWd) => q = (nI m, qPw u 229 (qIn o m P1))) (n := L) (by unfold zFU; omega) ?_ rfl
      rintro m hm q rfl k hk
      simp only [mX11_partByGallons_100b, mX11_partByGallons_143]
      by_cases em : m = L
      · subst em
        simp (disch := (first | omega | (simp (disch := omega) only [zu1, zu2, zu3, nIi, c0, qPw_n]; omega))) only [if_true, if_false, zE10, zE00, zOkN, Nat.reduceAdd, Nat.reduceMul, zcl_s, zif01, zbn_e, nIi, nI_clamp, nI_add, nI_1, pk_mul, zgi, zlt, zle, Int32.zero_add, Int32.add_zero, C0, C1, G0, G1, Nat.zero_add, Nat.add_zero, l2, l3, l4, l5, l6, l7, l8, l10, l11, l12, l20, l30, l48, l50, l60, l100, l120, l140, l152, l164, l176, l188, l200, l212, l224, l1604, l1880, l2000, l2008, l2016, l2024, l2032, l2040, l2048, l2210, l2240, l2270, l2300, l2330, l2390, l2450, l2510, l2570, l2590, l2620, l2650, l2660, l2700, T0, T1, Tm1, Tm99, Tm999, p_within, p_in, p_isCell, p_isOwner, p_isDay11, p_isDay12, p_isTap11, p_isTaker11, if_pos, if_neg, p_isTap12, p_isTaker12, p_isGone, zu1, zu2, zu3, nIe, Nat.reduceSub, c0, qPw_n]
      · have hm2 : m < j := by omega
        have hy1 := c1 m hm2
        have hy3 := ho m hm2
        have h1 := hk (by omega) (nI (m + 1), qPw u 229 (upd (qIn o m P1) (o m) (qIn o m P1 (o m) + 1))) rfl
        simp (disch := (first | omega | (simp (disch := omega) only [zu1, zu2, zu3, nIi, c0, qPw_n, qPw_e, qPw_uu, hy1]; omega))) only [if_true, if_false, zE10, zE00, zOkN, Nat.reduceAdd, Nat.reduceMul, zcl_s, zif01, zbn_e, nIi, nI_clamp, nI_add, nI_1, pk_mul, zgi, zlt, zle, Int32.zero_add, Int32.add_zero, C0, C1, G0, G1, Nat.zero_add, Nat.add_zero, l2, l3, l4, l5, l6, l7, l8, l10, l11, l12, l20, l30, l48, l50, l60, l100, l120, l140, l152, l164, l176, l188, l200, l212, l224, l1604, l1880, l2000, l2008, l2016, l2024, l2032, l2040, l2048, l2210, l2240, l2270, l2300, l2330, l2390, l2450, l2510, l2570, l2590, l2620, l2650, l2660, l2700, T0, T1, Tm1, Tm99, Tm999, p_within, p_in, p_isCell, p_isOwner, p_isDay11, p_isDay12, p_isTap11, p_isTaker11, if_pos, if_neg, p_isTap12, p_isTaker12, p_isGone, zu1, zu2, zu3, nIe, Nat.reduceSub, c0, qPw_n, qPw_e, qPw_uu, hy1]
        exact h1
    simp (disch := (first | omega | (simp (disch := omega) only [zu1, zu2, zu3, nIi, c0, qPw_n]; omega))) only [if_true, if_false, zE10, zE00, zOkN, Nat.reduceAdd, Nat.reduceMul, zcl_s, zif01, zbn_e, nIi, nI_clamp, nI_add, nI_1, pk_mul, zgi, zlt, zle, Int32.zero_add, Int32.add_zero, C0, C1, G0, G1, Nat.zero_add, Nat.add_zero, l2, l3, l4, l5, l6, l7, l8, l10, l11, l12, l20, l30, l48, l50, l60, l100, l120, l140, l152, l164, l176, l188, l200, l212, l224, l1604, l1880, l2000, l2008, l2016, l2024, l2032, l2040, l2048, l2210, l2240, l2270, l2300, l2330, l2390, l2450, l2510, l2570, l2590, l2620, l2650, l2660, l2700, T0, T1, Tm1, Tm99, Tm999, p_within, p_in, p_isCell, p_isOwner, p_isDay11, p_isDay12, p_isTap11, p_isTaker11, if_pos, if_neg, p_isTap12, p_isTaker12, p_isGone, zu1, zu2, zu3, nIe, Nat.reduceSub, c0, qPw_n]
    exact lp3
  simp (disch := (first | omega | (simp (disch := omega) only [zu1, zu2, zu3, nIi, c0]; omega))) only [if_true, if_false, zE10, zE00, zOkN, Nat.reduceAdd, Nat.reduceMul, zcl_s, zif01, zbn_e, nIi, nI_clamp, nI_add, nI_1, pk_mul, zgi, zlt, zle, Int32.zero_add, Int32.add_zero, C0, C1, G0, G1, Nat.zero_add, Nat.add_zero, l2, l3, l4, l5, l6, l7, l8, l10, l11, l12, l20, l30, l48, l50, l60, l100, l120, l140, l152, l164, l176, l188, l200, l212, l224, l1604, l1880, l2000, l2008, l2016, l2024, l2032, l2040, l2048, l2210, l2240, l2270, l2300, l2330, l2390, l2450, l2510, l2570, l2590, l2620, l2650, l2660, l2700, T0, T1, Tm1, Tm99, Tm999, p_within, p_in, p_isCell, p_isOwner, p_isDay11, p_isDay12, p_isTap11, p_isTaker11, if_pos, if_neg, p_isTap12, p_isTaker12, p_isGone, zu1, zu2, zu3, nIe, Nat.reduceSub, c0]
  exact lp2
theorem s_gal12 (hK : K ≤ 8) (hK0 : 0 < K) (ho : ∀ i, i < K → o i < K) (hG : ∀ t, t < K → 1 ≤ G t ∧ G t ≤ 4) (c0 : u 232 3 = nI K) (c1 : ∀ i, i < K → u 240 i = nI (o i)) (c2 : ∀ t, t < K → u 232 (2016 + t) = nI (G t)) {n t : Nat} (hn : n ≤ 999) (ht : t < 8) : mX12_want_191 231 (nI n) (nI t) (nI (qSm G K)) (nI n) 0 u = some (qIn o (n - qSm (fun j => n * G j / qSm G K) K) (qUp (fun j => j) (fun j => nI (n * G j / qSm G K)) K (u 246)) t, qPw u 246 (qIn o (n - qSm (fun j => n * G j / qSm G K) K) (qUp (fun j => j) (fun j => nI (n * G j / qSm G K)) K (u 246)))) := by
  have hA4 : qSm G K ≤ K * 4 := qSm_le2 (fun i hi => (hG i hi).2) K (Nat.le_refl K)
  have hA0 : 0 < qSm G K := by
    have h1 := qSm_mono G 1 K hK0
    have h2 := (hG 0 hK0).1
    have h3 : qSm G 1 = 0 + G 0 := rfl
    omega
  obtain ⟨hS, hL⟩ := qSm_rest (n := n) hK0 hA0
  have hmono := fun i (hi : i ≤ K) => qSm_mono (fun j => n * G j / qSm G K) i K hi
  generalize hAA : qSm G K = A at *
  have hAn : ¬ (nI A : Int32) = 0 := fun q => by rw [show (0 : Int32) = nI 0 from rfl, nIe (by omega) (by omega)] at q; omega
  unfold mX12_want_191
  refine zlp_to (P := fun (j : Nat) (q : Int32 × Int32 × zWd) => q = (nI (n - qSm (fun j => n * G j / A) j), nI j, qPw u 246 (qUp (fun j => j) (fun j => nI (n * G j / A)) j (u 246)))) (n := K) (by unfold zFU; omega) ?_ (by show _ = (nI n, nI 0, qPw u 246 (u 246)); rw [qPw_s]; rfl)
  rintro j hj q rfl k hk
  simp only [mX12_want_191b]
  by_cases ej : j = K
  rotate_left
  · have hj2 : j < K := by omega
    have hy := c2 j hj2
    have hy2 := hG j hj2
    have hle : n * G j ≤ 999 * 4 := Nat.mul_le_mul hn hy2.2
    have hd : nI (n * G j) / nI A = nI (n * G j / A) := pk_div (by omega) hA0 (by omega)
    have hs1 : qSm (fun j => n * G j / A) (j + 1) = qSm (fun j => n * G j / A) j + n * G j / A := rfl
    have hs2 := hmono (j + 1) hj2
    have hsub : nI (n - qSm (fun j => n * G j / A) j) - nI (n * G j / A) = nI (n - qSm (fun j => n * G j / A) (j + 1)) := by
      rw [pk_sub (by omega), hs1]; congr 1; omega
    have h1 := hk hj2 (nI (n - qSm (fun j => n * G j / A) (j + 1)), nI (j + 1), qPw u 246 (upd (qUp (fun j => j) (fun j => nI (n * G j / A)) j (u 246)) j (nI (n * G j / A)))) rfl
    simp (disch := (first | omega | (simp (disch := omega) only [zu1, zu2, zu3, nIi, c0, qPw_n, qPw_e, qPw_uu, qu_eq, hy, zgd_t hAn, hd, hsub]; omega))) only [if_true, if_false, zE10, zE00, zOkN, Nat.reduceAdd, Nat.reduceMul, zcl_s, zif01, zbn_e, nIi, nI_clamp, nI_add, nI_1, pk_mul, zgi, zlt, zle, Int32.zero_add, Int32.add_zero, C0, C1, G0, G1, Nat.zero_add, Nat.add_zero, l2, l3, l4, l5, l6, l7, l8, l10, l11, l12, l20, l30, l48, l50, l60, l100, l120, l140, l152, l164, l176, l188, l200, l212, l224, l1604, l1880, l2000, l2008, l2016, l2024, l2032, l2040, l2048, l2210, l2240, l2270, l2300, l2330, l2390, l2450, l2510, l2570, l2590, l2620, l2650, l2660, l2700, T0, T1, Tm1, Tm99, Tm999, p_within, p_in, p_isCell, p_isOwner, p_isDay11, p_isDay12, p_isTap11, p_isTaker11, if_pos, if_neg, p_isTap12, p_isTaker12, p_isGone, zu1, zu2, zu3, nIe, Nat.reduceSub, c0, qPw_n, qPw_e, qPw_uu, qu_eq, hy, zgd_t hAn, hd, hsub]
    exact h1
  subst ej
  clear hk hj
  generalize n - qSm (fun j => n * G j / A) j = L at *
  generalize qUp (fun j => j) (fun j => nI (n * G j / A)) j (u 246) = P1
  have lp3 : mX12_want_246 231 (nI t) (nI L) 0 (qPw u 246 P1) = some (qIn o L P1 t, qPw u 246 (qIn o L P1)) := by
    unfold mX12_want_246
    refine zlp_to (P := fun (m : Nat) (q : Int32 × zWd) => q = (nI m, qPw u 246 (qIn o m P1))) (n := L) (by unfold zFU; omega) ?_ rfl
    rintro m hm q rfl k hk
    simp only [mX12_want_246b, mX12_want_396]
    by_cases em : m = L
    · subst em
      simp (disch := (first | omega | (simp (disch := omega) only [zu1, zu2, zu3, nIi, qPw_e]; omega))) only [if_true, if_false, zE10, zE00, zOkN, Nat.reduceAdd, Nat.reduceMul, zcl_s, zif01, zbn_e, nIi, nI_clamp, nI_add, nI_1, pk_mul, zgi, zlt, zle, Int32.zero_add, Int32.add_zero, C0, C1, G0, G1, Nat.zero_add, Nat.add_zero, l2, l3, l4, l5, l6, l7, l8, l10, l11, l12, l20, l30, l48, l50, l60, l100, l120, l140, l152, l164, l176, l188, l200, l212, l224, l1604, l1880, l2000, l2008, l2016, l2024, l2032, l2040, l2048, l2210, l2240, l2270, l2300, l2330, l2390, l2450, l2510, l2570, l2590, l2620, l2650, l2660, l2700, T0, T1, Tm1, Tm99, Tm999, p_within, p_in, p_isCell, p_isOwner, p_isDay11, p_isDay12, p_isTap11, p_isTaker11, if_pos, if_neg, p_isTap12, p_isTaker12, p_isGone, zu1, zu2, zu3, nIe, Nat.reduceSub, qPw_e]
    · have hm2 : m < j := by omega
      have hy1 := c1 m hm2
      have hy3 := ho m hm2
      have h1 := hk (by omega) (nI (m + 1), qPw u 246 (upd (qIn o m P1) (o m) (qIn o m P1 (o m) + 1))) rfl
      simp (disch := (first | omega | (simp (disch := omega) only [zu1, zu2, zu3, nIi, qPw_n, qPw_e, qPw_uu, hy1]; omega))) only [if_true, if_false, zE10, zE00, zOkN, Nat.reduceAdd, Nat.reduceMul, zcl_s, zif01, zbn_e, nIi, nI_clamp, nI_add, nI_1, pk_mul, zgi, zlt, zle, Int32.zero_add, Int32.add_zero, C0, C1, G0, G1, Nat.zero_add, Nat.add_zero, l2, l3, l4, l5, l6, l7, l8, l10, l11, l12, l20, l30, l48, l50, l60, l100, l120, l140, l152, l164, l176, l188, l200, l212, l224, l1604, l1880, l2000, l2008, l2016, l2024, l2032, l2040, l2048, l2210, l2240, l2270, l2300, l2330, l2390, l2450, l2510, l2570, l2590, l2620, l2650, l2660, l2700, T0, T1, Tm1, Tm99, Tm999, p_within, p_in, p_isCell, p_isOwner, p_isDay11, p_isDay12, p_isTap11, p_isTaker11, if_pos, if_neg, p_isTap12, p_isTaker12, p_isGone, zu1, zu2, zu3, nIe, Nat.reduceSub, qPw_n, qPw_e, qPw_uu, hy1]
      exact h1
  simp (disch := (first | omega | (simp (disch := omega) only [zu1, zu2, zu3, nIi, c0, qPw_n]; omega))) only [if_true, if_false, zE10, zE00, zOkN, Nat.reduceAdd, Nat.reduceMul, zcl_s, zif01, zbn_e, nIi, nI_clamp, nI_add, nI_1, pk_mul, zgi, zlt, zle, Int32.zero_add, Int32.add_zero, C0, C1, G0, G1, Nat.zero_add, Nat.add_zero, l2, l3, l4, l5, l6, l7, l8, l10, l11, l12, l20, l30, l48, l50, l60, l100, l120, l140, l152, l164, l176, l188, l200, l212, l224, l1604, l1880, l2000, l2008, l2016, l2024, l2032, l2040, l2048, l2210, l2240, l2270, l2300, l2330, l2390, l2450, l2510, l2570, l2590, l2620, l2650, l2660, l2700, T0, T1, Tm1, Tm99, Tm999, p_within, p_in, p_isCell, p_isOwner, p_isDay11, p_isDay12, p_isTap11, p_isTaker11, if_pos, if_neg, p_isTap12, p_isTaker12, p_isGone, zu1, zu2, zu3, nIe, Nat.reduceSub, c0, qPw_n]
  exact lp3
theorem s_want52 (hK : K ≤ 8) (hG : ∀ t, t < K → 1 ≤ G t ∧ G t ≤ 4) (c0 : u 232 3 = nI K) (c2 : ∀ t, t < K → u 232 (2016 + t) = nI (G t)) {x : Nat} (hx : x ≤ 999) (n t : Int32) : mX12_want_52 231 n t (nI x) 0 0 u = if x = 0 then mX12_want_103 231 t n 0 (qPw u 246 (qUp (fun j => j) (fun _ => 0) K (u 246))) else if x = 1 then mX12_want_191 231 n t (nI (qSm G K)) n 0 (qPw u 246 (qUp (fun j => j) (fun _ => 0) K (u 246))) else mX12_want_281 231 t n 0 (qPw u 246 (qUp (fun j => j) (fun _ => 0) K (u 246))) := by
  unfold mX12_want_52
  refine zlp_to (P := fun (i : Nat) (q : Int32 × Int32 × zWd) => q = (nI (qSm G i), nI i, qPw u 246 (qUp (fun j => j) (fun _ => 0) i (u 246)))) (n := K) (by unfold zFU; omega) ?_ (by show _ = (nI 0, nI 0, qPw u 246 (u 246)); rw [qPw_s]; rfl)
  rintro i hi q rfl k hk
  simp only [mX12_want_52b]
  by_cases e : i = K
  rotate_left
  · have h1 := hk (by omega) (nI (qSm G i + G i), nI (i + 1), qPw u 246 (upd (qUp (fun j => j) (fun _ => 0) i (u 246)) i 0)) rfl
    have hy := c2 i (by omega)
    simp (disch := (first | omega | (simp (disch := omega) only [zu1, zu2, zu3, nIi, c0, qPw_n, qPw_uu, hy]; omega))) only [if_true, if_false, zE10, zE00, zOkN, Nat.reduceAdd, Nat.reduceMul, zcl_s, zif01, zbn_e, nIi, nI_clamp, nI_add, nI_1, pk_mul, zgi, zlt, zle, Int32.zero_add, Int32.add_zero, C0, C1, G0, G1, Nat.zero_add, Nat.add_zero, l2, l3, l4, l5, l6, l7, l8, l10, l11, l12, l20, l30, l48, l50, l60, l100, l120, l140, l152, l164, l176, l188, l200, l212, l224, l1604, l1880, l2000, l2008, l2016, l2024, l2032, l2040, l2048, l2210, l2240, l2270, l2300, l2330, l2390, l2450, l2510, l2570, l2590, l2620, l2650, l2660, l2700, T0, T1, Tm1, Tm99, Tm999, p_within, p_in, p_isCell, p_isOwner, p_isDay11, p_isDay12, p_isTap11, p_isTaker11, if_pos, if_neg, p_isTap12, p_isTaker12, p_isGone, zu1, zu2, zu3, nIe, Nat.reduceSub, c0, qPw_n, qPw_uu, hy]
    exact h1
  subst e
  by_cases x0 : x = 0
  · have hx0 : (nI x : Int32) = 0 := by rw [x0]; rfl
    rw [if_pos x0]
    simp (disch := (first | omega | (simp (disch := omega) only [zu1, zu2, zu3, nIi, c0, qPw_n, hx0]; omega))) only [if_true, if_false, zE10, zE00, zOkN, Nat.reduceAdd, Nat.reduceMul, zcl_s, zif01, zbn_e, nIi, nI_clamp, nI_add, nI_1, pk_mul, zgi, zlt, zle, Int32.zero_add, Int32.add_zero, C0, C1, G0, G1, Nat.zero_add, Nat.add_zero, l2, l3, l4, l5, l6, l7, l8, l10, l11, l12, l20, l30, l48, l50, l60, l100, l120, l140, l152, l164, l176, l188, l200, l212, l224, l1604, l1880, l2000, l2008, l2016, l2024, l2032, l2040, l2048, l2210, l2240, l2270, l2300, l2330, l2390, l2450, l2510, l2570, l2590, l2620, l2650, l2660, l2700, T0, T1, Tm1, Tm99, Tm999, p_within, p_in, p_isCell, p_isOwner, p_isDay11, p_isDay12, p_isTap11, p_isTaker11, if_pos, if_neg, p_isTap12, p_isTaker12, p_isGone, zu1, zu2, zu3, nIe, Nat.reduceSub, c0, qPw_n, hx0]
  have hx0 : ¬ (nI x : Int32) = 0 := fun q => by rw [show (0 : Int32) = nI 0 from rfl, nIe (by omega) (by omega)] at q; omega
  rw [if_neg x0]
  by_cases x1 : x = 1
  · have hx1 : (nI x : Int32) = 1 := by rw [x1]; rfl
    rw [if_pos x1]
    simp (disch := (first | omega | (simp (disch := omega) only [zu1, zu2, zu3, nIi, c0, qPw_n, hx0, hx1]; omega))) only [if_true, if_false, zE10, zE00, zOkN, Nat.reduceAdd, Nat.reduceMul, zcl_s, zif01, zbn_e, nIi, nI_clamp, nI_add, nI_1, pk_mul, zgi, zlt, zle, Int32.zero_add, Int32.add_zero, C0, C1, G0, G1, Nat.zero_add, Nat.add_zero, l2, l3, l4, l5, l6, l7, l8, l10, l11, l12, l20, l30, l48, l50, l60, l100, l120, l140, l152, l164, l176, l188, l200, l212, l224, l1604, l1880, l2000, l2008, l2016, l2024, l2032, l2040, l2048, l2210, l2240, l2270, l2300, l2330, l2390, l2450, l2510, l2570, l2590, l2620, l2650, l2660, l2700, T0, T1, Tm1, Tm99, Tm999, p_within, p_in, p_isCell, p_isOwner, p_isDay11, p_isDay12, p_isTap11, p_isTaker11, if_pos, if_neg, p_isTap12, p_isTaker12, p_isGone, zu1, zu2, zu3, nIe, Nat.reduceSub, c0, qPw_n, hx0, hx1]
  · have hx1 : ¬ (nI x : Int32) = 1 := fun q => by rw [show (1 : Int32) = nI 1 from rfl, nIe (by omega) (by omega)] at q; omega
    rw [if_neg x1]
    simp (disch := (first | omega | (simp (disch := omega) only [zu1, zu2, zu3, nIi, c0, qPw_n, hx0, hx1]; omega))) only [if_true, if_false, zE10, zE00, zOkN, Nat.reduceAdd, Nat.reduceMul, zcl_s, zif01, zbn_e, nIi, nI_clamp, nI_add, nI_1, pk_mul, zgi, zlt, zle, Int32.zero_add, Int32.add_zero, C0, C1, G0, G1, Nat.zero_add, Nat.add_zero, l2, l3, l4, l5, l6, l7, l8, l10, l11, l12, l20, l30, l48, l50, l60, l100, l120, l140, l152, l164, l176, l188, l200, l212, l224, l1604, l1880, l2000, l2008, l2016, l2024, l2032, l2040, l2048, l2210, l2240, l2270, l2300, l2330, l2390, l2450, l2510, l2570, l2590, l2620, l2650, l2660, l2700, T0, T1, Tm1, Tm99, Tm999, p_within, p_in, p_isCell, p_isOwner, p_isDay11, p_isDay12, p_isTap11, p_isTaker11, if_pos, if_neg, p_isTap12, p_isTaker12, p_isGone, zu1, zu2, zu3, nIe, Nat.reduceSub, c0, qPw_n, hx0, hx1]
end QWg
theorem qJ.pw {w u : zWd} (h : qJ w u) {k : Nat} (hk : qJc k = true) (O : Nat → Int32) : qJ w (qPw u k O) := ⟨fun a ha hj => by rw [qPw_n _ _ (fun e => by rw [e, hk] at hj; cases hj)]; exact h.1 a ha hj, fun i hi => by rw [qPw_n _ _ (fun e => by rw [← e] at hk; exact absurd hk (by decide))]; exact h.2 i hi⟩
theorem u_want {n : Nat} {w : zWd} (h : qInv n w) (a b : Int32) : qBoth n w (mX11_want 0 a b) (mX12_want 231 a b) := by
  obtain ⟨D, hD, d1, d2⟩ := q_today h
  obtain ⟨K, hK, e1, e2⟩ := q_takers h
  have e3 : (w 232 3).toInt = K := by rw [e2, nIi (by omega)]
  rcases zX b K K rfl (by omega) with hb | ⟨t, ht, rfl⟩
  · exact qBoth_id h (-1) (by unfold mX11_want; simp (disch := (first | omega | (simp (disch := omega) only [zu1, zu2, zu3, nIi, e1]; omega))) only [if_true, if_false, zE10, zE00, zOkN, Nat.reduceAdd, Nat.reduceMul, zcl_s, zif01, zbn_e, nIi, nI_clamp, nI_add, nI_1, pk_mul, zgi, zlt, zle, Int32.zero_add, Int32.add_zero, C0, C1, G0, G1, Nat.zero_add, Nat.add_zero, l2, l3, l4, l5, l6, l7, l8, l10, l11, l12, l20, l30, l48, l50, l60, l100, l120, l140, l152, l164, l176, l188, l200, l212, l224, l1604, l1880, l2000, l2008, l2016, l2024, l2032, l2040, l2048, l2210, l2240, l2270, l2300, l2330, l2390, l2450, l2510, l2570, l2590, l2620, l2650, l2660, l2700, T0, T1, Tm1, Tm99, Tm999, p_within, p_in, p_isCell, p_isOwner, p_isDay11, p_isDay12, p_isTap11, p_isTaker11, if_pos, if_neg, p_isTap12, p_isTaker12, p_isGone, zu1, zu2, zu3, nIe, Nat.reduceSub, e1]) (by unfold mX12_want; simp (disch := (first | omega | (simp (disch := omega) only [zu1, zu2, zu3, nIi, e2]; omega))) only [if_true, if_false, zE10, zE00, zOkN, Nat.reduceAdd, Nat.reduceMul, zcl_s, zif01, zbn_e, nIi, nI_clamp, nI_add, nI_1, pk_mul, zgi, zlt, zle, Int32.zero_add, Int32.add_zero, C0, C1, G0, G1, Nat.zero_add, Nat.add_zero, l2, l3, l4, l5, l6, l7, l8, l10, l11, l12, l20, l30, l48, l50, l60, l100, l120, l140, l152, l164, l176, l188, l200, l212, l224, l1604, l1880, l2000, l2008, l2016, l2024, l2032, l2040, l2048, l2210, l2240, l2270, l2300, l2330, l2390, l2450, l2510, l2570, l2590, l2620, l2650, l2660, l2700, T0, T1, Tm1, Tm99, Tm999, p_within, p_in, p_isCell, p_isOwner, p_isDay11, p_isDay12, p_isTap11, p_isTaker11, if_pos, if_neg, p_isTap12, p_isTaker12, p_isGone, zu1, zu2, zu3, nIe, Nat.reduceSub, e2])
  rcases zX a 1000 1000 rfl (by omega) with ha | ⟨g, hg, rfl⟩
  · refine qBoth_id h (-2) ?_ (by unfold mX12_want; simp (disch := (first | omega | (simp (disch := omega) only [zu1, zu2, zu3, nIi, e2, T999]; omega))) only [if_true, if_false, zE10, zE00, zOkN, Nat.reduceAdd, Nat.reduceMul, zcl_s, zif01, zbn_e, nIi, nI_clamp, nI_add, nI_1, pk_mul, zgi, zlt, zle, Int32.zero_add, Int32.add_zero, C0, C1, G0, G1, Nat.zero_add, Nat.add_zero, l2, l3, l4, l5, l6, l7, l8, l10, l11, l12, l20, l30, l48, l50, l60, l100, l120, l140, l152, l164, l176, l188, l200, l212, l224, l1604, l1880, l2000, l2008, l2016, l2024, l2032, l2040, l2048, l2210, l2240, l2270, l2300, l2330, l2390, l2450, l2510, l2570, l2590, l2620, l2650, l2660, l2700, T0, T1, Tm1, Tm99, Tm999, p_within, p_in, p_isCell, p_isOwner, p_isDay11, p_isDay12, p_isTap11, p_isTaker11, if_pos, if_neg, p_isTap12, p_isTaker12, p_isGone, zu1, zu2, zu3, nIe, Nat.reduceSub, e2, T999])
    unfold mX11_want mX11_want_21
    by_cases c : a.toInt < 0
    · simp (disch := (first | omega | (simp (disch := omega) only [zu1, zu2, zu3, nIi, e1, T999]; omega))) only [if_true, if_false, zE10, zE00, zOkN, Nat.reduceAdd, Nat.reduceMul, zcl_s, zif01, zbn_e, nIi, nI_clamp, nI_add, nI_1, pk_mul, zgi, zlt, zle, Int32.zero_add, Int32.add_zero, C0, C1, G0, G1, Nat.zero_add, Nat.add_zero, l2, l3, l4, l5, l6, l7, l8, l10, l11, l12, l20, l30, l48, l50, l60, l100, l120, l140, l152, l164, l176, l188, l200, l212, l224, l1604, l1880, l2000, l2008, l2016, l2024, l2032, l2040, l2048, l2210, l2240, l2270, l2300, l2330, l2390, l2450, l2510, l2570, l2590, l2620, l2650, l2660, l2700, T0, T1, Tm1, Tm99, Tm999, p_within, p_in, p_isCell, p_isOwner, p_isDay11, p_isDay12, p_isTap11, p_isTaker11, if_pos, if_neg, p_isTap12, p_isTaker12, p_isGone, zu1, zu2, zu3, nIe, Nat.reduceSub, e1, T999]
    · simp (disch := (first | omega | (simp (disch := omega) only [zu1, zu2, zu3, nIi, e1, T999]; omega))) only [if_true, if_false, zE10, zE00, zOkN, Nat.reduceAdd, Nat.reduceMul, zcl_s, zif01, zbn_e, nIi, nI_clamp, nI_add, nI_1, pk_mul, zgi, zlt, zle, Int32.zero_add, Int32.add_zero, C0, C1, G0, G1, Nat.zero_add, Nat.add_zero, l2, l3, l4, l5, l6, l7, l8, l10, l11, l12, l20, l30, l48, l50, l60, l100, l120, l140, l152, l164, l176, l188, l200, l212, l224, l1604, l1880, l2000, l2008, l2016, l2024, l2032, l2040, l2048, l2210, l2240, l2270, l2300, l2330, l2390, l2450, l2510, l2570, l2590, l2620, l2650, l2660, l2700, T0, T1, Tm1, Tm99, Tm999, p_within, p_in, p_isCell, p_isOwner, p_isDay11, p_isDay12, p_isTap11, p_isTaker11, if_pos, if_neg, p_isTap12, p_isTaker12, p_isGone, zu1, zu2, zu3, nIe, Nat.reduceSub, e1, T999]
  obtain ⟨R, r1, r2, r3⟩ := q_row h (nI D) hK e1 e2
  obtain ⟨x, hx, g1, g2⟩ := q_rules h (N := 5) (by omega) (nI D)
  obtain ⟨u, f1, f2, f3, f4, f5⟩ := r1 w (qRc.rf w)
  have e232 := f2 232 (by decide) (by decide) (by decide)
  have hgu := g1 u (fun a h1 h2 => f2 a (by omega) (by omega) (by omega))
  have hex : ∀ t, ∃ G : Nat, t < K → 1 ≤ G ∧ G ≤ 4 ∧ w 85 t = nI G ∧ w 232 (2016 + t) = nI G := by
    intro t
    by_cases ht : t < K
    · obtain ⟨k, G, H, _, q1, q2, _, _, _, q3, q4, _⟩ := q_tk h hK e2 ht
      exact ⟨G, fun _ => ⟨q1, q2, q3, q4⟩⟩
    · exact ⟨0, fun q => absurd q ht⟩
  obtain ⟨G, hG0⟩ := Classical.axiomOfChoice hex
  have hG : ∀ t, t < K → 1 ≤ G t ∧ G t ≤ 4 := fun t ht => ⟨(hG0 t ht).1, (hG0 t ht).2.1⟩
  have hox : ∀ i, ∃ t, i < K → t < K ∧ qLn R (w 87) K (w 219) i = nI t := by
    intro i
    by_cases hi : i < K
    · obtain ⟨t, q1, q2⟩ := qLn_v (R := R) (S := w 87) K (w 219) i hi
      exact ⟨t, fun _ => ⟨q1, q2⟩⟩
    · exact ⟨0, fun q => absurd q hi⟩
  obtain ⟨o, ho0⟩ := Classical.axiomOfChoice hox
  have ho : ∀ i, i < K → o i < K := fun i hi => (ho0 i hi).1
  have hinj : ∀ j j', j < K → j' < K → o j = o j' → j = j' := fun j j' hj hj' q => qLn_i (R := R) (S := w 87) K (w 219) (by omega) j j' hj hj' (by rw [(ho0 j hj).2, (ho0 j' hj').2, q])
  have hsur : ∀ t, t < K → ∃ j, j < K ∧ o j = t := fun t ht => by
    obtain ⟨j, q1, q2⟩ := qLn_t (R := R) (S := w 87) K (w 219) t ht
    rw [(ho0 j q1).2, nIe (by have := ho j q1; omega) (by omega)] at q2
    exact ⟨j, q1, q2⟩
  -- the class's world behind the row
  have c1 : ∀ i, i < K → u 219 i = nI (o i) := fun i hi => by rw [f5]; exact (ho0 i hi).2
  have c2 : ∀ t, t < K → u 85 t = nI (G t) := fun t ht => by rw [f2 85 (by decide) (by decide) (by decide)]; exact (hG0 t ht).2.2.1
  have hcl : mX11_want 0 (nI g) (nI t) w = if x = 0 then zcl (mX11_partByRank 0 (nI g) u) (fun _ w8 => mX11_want_113 0 (nI t) w8) else if x = 1 then zcl (mX11_partByGallons 0 (nI g) u) (fun _ w8 => mX11_want_113 0 (nI t) w8) else zcl (mX11_partAlike 0 (nI g) u) (fun _ w8 => mX11_want_113 0 (nI t) w8) := by
    have eu : u 1 0 = nI D := by rw [f2 1 (by decide) (by decide) (by decide)]; exact d1
    unfold mX11_want
    by_cases x0 : x = 0
    · have hx0 : (nI x : Int32) = 0 := by rw [x0]; rfl
      rw [if_pos x0]
      simp (disch := (first | omega | (simp (disch := omega) only [zu1, zu2, zu3, nIi, e1, T999, d1, f1, eu, hgu, hx0]; omega))) only [if_true, if_false, zE10, zE00, zOkN, Nat.reduceAdd, Nat.reduceMul, zcl_s, zif01, zbn_e, nIi, nI_clamp, nI_add, nI_1, pk_mul, zgi, zlt, zle, Int32.zero_add, Int32.add_zero, C0, C1, G0, G1, Nat.zero_add, Nat.add_zero, l2, l3, l4, l5, l6, l7, l8, l10, l11, l12, l20, l30, l48, l50, l60, l100, l120, l140, l152, l164, l176, l188, l200, l212, l224, l1604, l1880, l2000, l2008, l2016, l2024, l2032, l2040, l2048, l2210, l2240, l2270, l2300, l2330, l2390, l2450, l2510, l2570, l2590, l2620, l2650, l2660, l2700, T0, T1, Tm1, Tm99, Tm999, p_within, p_in, p_isCell, p_isOwner, p_isDay11, p_isDay12, p_isTap11, p_isTaker11, if_pos, if_neg, p_isTap12, p_isTaker12, p_isGone, zu1, zu2, zu3, nIe, Nat.reduceSub, e1, T999, d1, f1, eu, hgu, hx0]
    have hx0 : ¬ (nI x : Int32) = 0 := fun q => by rw [show (0 : Int32) = nI 0 from rfl, nIe (by omega) (by omega)] at q; omega
    rw [if_neg x0]
    by_cases x1 : x = 1
    · have hx1 : (nI x : Int32) = 1 := by rw [x1]; rfl
      rw [if_pos x1]
      simp (disch := (first | omega | (simp (disch := omega) only [zu1, zu2, zu3, nIi, e1, T999, d1, f1, eu, hgu, hx0, hx1]; omega))) only [if_true, if_false, zE10, zE00, zOkN, Nat.reduceAdd, Nat.reduceMul, zcl_s, zif01, zbn_e, nIi, nI_clamp, nI_add, nI_1, pk_mul, zgi, zlt, zle, Int32.zero_add, Int32.add_zero, C0, C1, G0, G1, Nat.zero_add, Nat.add_zero, l2, l3, l4, l5, l6, l7, l8, l10, l11, l12, l20, l30, l48, l50, l60, l100, l120, l140, l152, l164, l176, l188, l200, l212, l224, l1604, l1880, l2000, l2008, l2016, l2024, l2032, l2040, l2048, l2210, l2240, l2270, l2300, l2330, l2390, l2450, l2510, l2570, l2590, l2620, l2650, l2660, l2700, T0, T1, Tm1, Tm99, Tm999, p_within, p_in, p_isCell, p_isOwner, p_isDay11, p_isDay12, p_isTap11, p_isTaker11, if_pos, if_neg, p_isTap12, p_isTaker12, p_isGone, zu1, zu2, zu3, nIe, Nat.reduceSub, e1, T999, d1, f1, eu, hgu, hx0, hx1]
    · have hx1 : ¬ (nI x : Int32) = 1 := fun q => by rw [show (1 : Int32) = nI 1 from rfl, nIe (by omega) (by omega)] at q; omega
      rw [if_neg x1]
      simp (disch := (first | omega | (simp (disch := omega) only [zu1, zu2, zu3, nIi, e1, T999, d1, f1, eu, hgu, hx0, hx1]; omega))) only [if_true, if_false, zE10, zE00, zOkN, Nat.reduceAdd, Nat.reduceMul, zcl_s, zif01, zbn_e, nIi, nI_clamp, nI_add, nI_1, pk_mul, zgi, zlt, zle, Int32.zero_add, Int32.add_zero, C0, C1, G0, G1, Nat.zero_add, Nat.add_zero, l2, l3, l4, l5, l6, l7, l8, l10, l11, l12, l20, l30, l48, l50, l60, l100, l120, l140, l152, l164, l176, l188, l200, l212, l224, l1604, l1880, l2000, l2008, l2016, l2024, l2032, l2040, l2048, l2210, l2240, l2270, l2300, l2330, l2390, l2450, l2510, l2570, l2590, l2620, l2650, l2660, l2700, T0, T1, Tm1, Tm99, Tm999, p_within, p_in, p_isCell, p_isOwner, p_isDay11, p_isDay12, p_isTap11, p_isTaker11, if_pos, if_neg, p_isTap12, p_isTaker12, p_isGone, zu1, zu2, zu3, nIe, Nat.reduceSub, e1, T999, d1, f1, eu, hgu, hx0, hx1]
  have hml : ∀ u1 : zWd, u1 232 = w 232 → ∃ u2, mX12_want 231 (nI g) (nI t) u1 = mX12_want_52 231 (nI g) (nI t) (nI x) 0 0 u2 ∧ qJ u1 u2 ∧ ∀ i, i < K → u2 240 i = nI (o i) := by
    intro u1 hu1
    obtain ⟨u2, q1, q2, q3, q4, q5⟩ := r3 u1 hu1
    have e2' := (q2 232 (by decide) (by decide) (by decide)).trans hu1
    obtain ⟨u3, q6, q7⟩ := g2 u2 e2'
    refine ⟨u3, ?_, (qJ.rows q2 q3).s1 q7, fun i hi => ?_⟩
    · unfold mX12_want
      simp (disch := (first | omega | (simp (disch := omega) only [zu1, zu2, zu3, nIi, hu1, e2, d2, q1, e2', q6, T999]; omega))) only [if_true, if_false, zE10, zE00, zOkN, Nat.reduceAdd, Nat.reduceMul, zcl_s, zif01, zbn_e, nIi, nI_clamp, nI_add, nI_1, pk_mul, zgi, zlt, zle, Int32.zero_add, Int32.add_zero, C0, C1, G0, G1, Nat.zero_add, Nat.add_zero, l2, l3, l4, l5, l6, l7, l8, l10, l11, l12, l20, l30, l48, l50, l60, l100, l120, l140, l152, l164, l176, l188, l200, l212, l224, l1604, l1880, l2000, l2008, l2016, l2024, l2032, l2040, l2048, l2210, l2240, l2270, l2300, l2330, l2390, l2450, l2510, l2570, l2590, l2620, l2650, l2660, l2700, T0, T1, Tm1, Tm99, Tm999, p_within, p_in, p_isCell, p_isOwner, p_isDay11, p_isDay12, p_isTap11, p_isTaker11, if_pos, if_neg, p_isTap12, p_isTaker12, p_isGone, zu1, zu2, zu3, nIe, Nat.reduceSub, hu1, e2, d2, q1, e2', q6, T999]
    · rw [q7.1 240 (by decide), q5, qLn_j K _ (w 219) i hi]
      exact (ho0 i hi).2
  -- each of the three ways
  have fin : ∀ P : Nat → Int32, (x = 0 → zcl (mX11_partByRank 0 (nI g) u) (fun _ w8 => mX11_want_113 0 (nI t) w8) = some (P t, qPw u 229 P)) → (x = 1 → zcl (mX11_partByGallons 0 (nI g) u) (fun _ w8 => mX11_want_113 0 (nI t) w8) = some (P t, qPw u 229 P)) → (¬ x = 0 → ¬ x = 1 → zcl (mX11_partAlike 0 (nI g) u) (fun _ w8 => mX11_want_113 0 (nI t) w8) = some (P t, qPw u 229 P)) → (∀ u2 : zWd, u2 232 = w 232 → (∀ i, i < K → u2 240 i = nI (o i)) → ∃ Q, mX12_want_52 231 (nI g) (nI t) (nI x) 0 0 u2 = some (P t, qPw u2 246 Q)) → qBoth n w (mX11_want 0 (nI g) (nI t)) (mX12_want 231 (nI g) (nI t)) := by
    intro P p0 p1 p2 pm
    have hc : mX11_want 0 (nI g) (nI t) w = some (P t, qPw u 229 P) := by
      rw [hcl]
      by_cases x0 : x = 0
      · rw [if_pos x0]; exact p0 x0
      rw [if_neg x0]
      by_cases x1 : x = 1
      · rw [if_pos x1]; exact p1 x1
      · rw [if_neg x1]; exact p2 x0 x1
    obtain ⟨u2, m1, m2, m3⟩ := hml (qPw u 229 P) (by rw [qPw_n _ _ (by decide)]; exact e232)
    obtain ⟨Q, m4⟩ := pm u2 (by rw [m2.lo (by omega), qPw_n _ _ (by decide)]; exact e232) m3
    exact qBoth_j h hc (m1.trans m4) ((((qJ.form f2).pw (k := 229) (by decide) P).tr m2).pw (k := 246) (by decide) Q)
  have h113 : ∀ P : Nat → Int32, mX11_want_113 0 (nI t) (qPw u 229 P) = some (P t, qPw u 229 P) := fun P => by
    unfold mX11_want_113
    simp (disch := (first | omega | (simp (disch := omega) only [zu1, zu2, zu3, nIi, qPw_e]; omega))) only [if_true, if_false, zE10, zE00, zOkN, Nat.reduceAdd, Nat.reduceMul, zcl_s, zif01, zbn_e, nIi, nI_clamp, nI_add, nI_1, pk_mul, zgi, zlt, zle, Int32.zero_add, Int32.add_zero, C0, C1, G0, G1, Nat.zero_add, Nat.add_zero, l2, l3, l4, l5, l6, l7, l8, l10, l11, l12, l20, l30, l48, l50, l60, l100, l120, l140, l152, l164, l176, l188, l200, l212, l224, l1604, l1880, l2000, l2008, l2016, l2024, l2032, l2040, l2048, l2210, l2240, l2270, l2300, l2330, l2390, l2450, l2510, l2570, l2590, l2620, l2650, l2660, l2700, T0, T1, Tm1, Tm99, Tm999, p_within, p_in, p_isCell, p_isOwner, p_isDay11, p_isDay12, p_isTap11, p_isTaker11, if_pos, if_neg, p_isTap12, p_isTaker12, p_isGone, zu1, zu2, zu3, nIe, Nat.reduceSub, qPw_e]
  have mc2 : ∀ u2 : zWd, u2 232 = w 232 → ∀ t, t < K → u2 232 (2016 + t) = nI (G t) := fun u2 hu2 t ht => by rw [hu2]; exact (hG0 t ht).2.2.2
  have mc0 : ∀ u2 : zWd, u2 232 = w 232 → u2 232 3 = nI K := fun u2 hu2 => by rw [hu2]; exact e2
  by_cases x0 : x = 0
  · refine fin (qUp o (qMn o G g) K (u 229)) (fun _ => ?_) (fun q => by omega) (fun q => absurd x0 q) (fun u2 hu2 hl => ?_)
    · rw [s_rank11 hK ho hG f3 c1 c2 (by omega), zcl_s, h113]
    · refine ⟨qUp o (qMn o G g) K (qUp (fun j => j) (fun _ => 0) K (u2 246)), ?_⟩
      rw [s_want52 hK hG (mc0 u2 hu2) (mc2 u2 hu2) hx, if_pos x0, s_rank12 (o := o) (G := G) hK ho hG (by rw [qPw_n _ _ (by decide)]; exact mc0 u2 hu2) (fun i hi => by rw [qPw_n _ _ (by decide)]; exact hl i hi) (fun t ht => by rw [qPw_n _ _ (by decide)]; exact mc2 u2 hu2 t ht) (by omega) (by omega), qPw_p, qPw_e, qUp_j _ (u 229) K (hsur t ht)]
  by_cases x1 : x = 1
  · refine fin (qIn o (g - qSm (fun j => g * G j / qSm G K) K) (qUp (fun j => j) (fun j => nI (g * G j / qSm G K)) K (u 229))) (fun q => absurd q x0) (fun _ => ?_) (fun _ q => absurd x1 q) (fun u2 hu2 hl => ?_)
    · rw [s_gal11 hK (by omega) ho hG f3 c1 c2 (by omega), zcl_s, h113]
    · refine ⟨qIn o (g - qSm (fun j => g * G j / qSm G K) K) (qUp (fun j => j) (fun j => nI (g * G j / qSm G K)) K (qUp (fun j => j) (fun _ => 0) K (u2 246))), ?_⟩
      have hA0 : 0 < qSm G K := by
        have h1 := qSm_mono G 1 K (by omega)
        have h2 := (hG 0 (by omega)).1
        have h3 : qSm G 1 = 0 + G 0 := rfl
        omega
      rw [s_want52 hK hG (mc0 u2 hu2) (mc2 u2 hu2) hx, if_neg x0, if_pos x1, s_gal12 (o := o) (G := G) hK (by omega) ho hG (by rw [qPw_n _ _ (by decide)]; exact mc0 u2 hu2) (fun i hi => by rw [qPw_n _ _ (by decide)]; exact hl i hi) (fun t ht => by rw [qPw_n _ _ (by decide)]; exact mc2 u2 hu2 t ht) (by omega) (by omega), qPw_p, qPw_e]
      rw [qIn_j (K := K) (P' := qUp (fun j => j) (fun j => nI (g * G j / qSm G K)) K (u 229)) (fun t ht => qUp_j _ _ K ⟨t, ht, rfl⟩) ho _ (by have := (qSm_rest (n := g) (show 0 < K by omega) hA0).2; omega) t ht]
  · refine fin (qA2 o G K 4 (g, qUp (fun j => j) (fun _ => 0) K (u 229))).2 (fun q => absurd q x0) (fun q => absurd q x1) (fun _ _ => ?_) (fun u2 hu2 hl => ?_)
    · rw [s_alike11 hK ho hG f3 c1 c2 (by omega), zcl_s, h113]
    · refine ⟨(qA2 o G K 4 (g, qUp (fun j => j) (fun _ => 0) K (u2 246))).2, ?_⟩
      rw [s_want52 hK hG (mc0 u2 hu2) (mc2 u2 hu2) hx, if_neg x0, if_neg x1, s_alike12 (o := o) (G := G) hK ho hinj hG (by rw [qPw_n _ _ (by decide)]; exact mc0 u2 hu2) (fun i hi => by rw [qPw_n _ _ (by decide)]; exact hl i hi) (fun t ht => by rw [qPw_n _ _ (by decide)]; exact mc2 u2 hu2 t ht) (by omega) (by omega) (fun j hj => by rw [qPw_e]; exact qUp_0 _ K hj), qPw_p, qPw_e]
      rw [(qA2_j (G := G) (s := (g, qUp (fun j => j) (fun _ => 0) K (u2 246))) (s' := (g, qUp (fun j => j) (fun _ => 0) K (u 229))) ho ⟨rfl, fun t ht => (qUp_0 (u2 246) K ht).trans (qUp_0 (u 229) K ht).symm⟩ 4).2 t ht]
