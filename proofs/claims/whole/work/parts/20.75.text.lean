/-! TEXT -/
section UT
variable {n K M N b : Nat} {w w2 u' : zWd} {day : Int32} {cs : List qCl1}
theorem t_fin (h : qInv n w) (hK : K ≤ 9) (k2 : w 232 2 = nI K) (hM : M = K ∨ M = K + 1) (f1 : ∀ c, c ≠ 216 → c ≠ 231 → c ≠ 232 → c ≠ 12 → c ≠ 14 → (c < 16 + 6 * K ∨ 21 + 6 * K < c) → w2 c = w c) (f2 : w2 12 0 = 0) (f3 : w2 14 0 = nI M) (f4 : ∀ j, j < 10 ∨ 14 < j → w2 231 j = w 231 j)
    (hs : ∀ j, j ≠ 6 → j ≠ 2 → j ≠ 240 + K → j ≠ 252 + K → (j < 264 + 120 * K ∨ 264 + 120 * K + 120 ≤ j) → (∀ k, k ≤ 7 → ¬ qPut K k j) → w2 232 j = w 232 j) (hs6 : w2 232 6 = 0) (hs2 : w2 232 2 = nI M) (hn : M = K + 1 → qOr1 (qVw w2 1) (w2 232) K) : qInv (n + 1) w2 := by
  refine h.of (Nat.le_succ n) ⟨fun a ha => ?_, f4 3 (by omega)⟩ ?_ ?_
  · unfold qPt at ha
    simp at ha
    exact f1 a (by omega) (by omega) (by omega) (by omega) (by omega) (by omega)
  · refine qRl_text h.1 hK k2 hM (fun o o1 o2 o3 => ?_) (by rw [qVw_at _ (by omega)]; exact f2) (by rw [qVw_at _ (by omega)]; exact f3) (fun j j1 j2 j3 => hs j j1 j2 (by omega) (by omega) (by omega) (fun k hk => by unfold qPut; omega)) hs6 hs2 (fun a j ha hj => hs j (by omega) (by omega) (by omega) (by omega) (by omega) (fun k hk => by unfold qPut; omega)) hn
    unfold qVw
    by_cases ho : o < 102
    · rw [if_pos ho, if_pos ho, f1 _ (by omega) (by omega) (by omega) (by omega) (by omega) (by omega)]
    · rw [if_neg ho, if_neg ho]
  · rw [hs 0 (by omega) (by omega) (by omega) (by omega) (by omega) (fun k hk => by unfold qPut; omega)]
    exact Int.le_refl _
/-- the new order -/
theorem t_new (h : qInv n w) (hK : K ≤ 9) (hN : N ≤ 120) (hd : 0 ≤ day.toInt ∧ day.toInt ≤ 400) (hr : qCls (fun i => w 232 (1880 + i)) N 8 0 [] = (M, some cs)) (hu : qCk w2 (16 + 6 * K) cs b) (hb : b ≤ 120) (hu0 : w2 (16 + 6 * K) 0 = day) (h1 : w2 232 (240 + K) = day) (h2 : w2 232 (252 + K) = nI N) (h3 : ∀ i, i < N → w2 232 (264 + 120 * K + i) = w 232 (1880 + i)) (hm : qMk w2 K cs) : qOr1 (qVw w2 1) (w2 232) K := by
  have cc : ∀ i, i < 6 → qVw w2 1 (15 + 6 * K + i) = w2 (16 + 6 * K + i) := fun i hi => by rw [qVw_at _ (by omega), show 1 + (15 + 6 * K + i) = 16 + 6 * K + i by omega]
  obtain ⟨l1, l2⟩ := qCls_in hN 8 0 [] cs M (by omega) (by show 0 + 8 ≤ 8; omega) (fun c hc => by simp at hc) hr
  obtain ⟨u1, u2, u3⟩ := hu
  obtain ⟨m1, m2⟩ := hm
  unfold qOr1
  rw [show qVw w2 1 (15 + 6 * K) = w2 (16 + 6 * K) from cc 0 (by omega), cc 1 (by omega), cc 2 (by omega), cc 3 (by omega), cc 4 (by omega), cc 5 (by omega), hu0, h1, u1, m1, nIi (by omega)]
  refine ⟨rfl, rfl, hd, by omega, N, hN, h2, fun i hi => ?_, fun k hk => ?_⟩
  · rw [h3 i hi]
    exact qRg_at (qR1 h) 16 rfl (i := i) (by omega)
  · obtain ⟨c, c1, c2, c3, b0, c4, c5, c6, c7⟩ := u3 k (by omega)
    obtain ⟨c', d1, d2, d3, d4⟩ := m2 k (by omega)
    obtain rfl : c = c' := by rw [c1] at d1; exact Option.some.inj d1
    obtain ⟨⟨i, hi, ei⟩, ⟨m, hm, em⟩, g5⟩ := l2 c (List.mem_of_getElem? c1)
    rw [show 1612 + 8 * K + k = 1612 + (8 * K + k) by omega, show 1700 + 8 * K + k = 1700 + (8 * K + k) by omega, show 1790 + 8 * K + k = 1790 + (8 * K + k) by omega, c2, c3, d2, d3]
    refine ⟨rfl, rfl, by rw [ei, nIi (by omega)]; omega, by rw [em, nIi (by omega)]; omega, fun f6 => ?_⟩
    obtain ⟨g6, p3, g7⟩ := g5 f6
    refine ⟨c.2.2.1, p3, b0, c.2.2.2, d4 f6, g6, ?_, c4, c5, by omega, c7⟩
    rw [← g7]
    refine qE_congr (fun q => ?_) _
    unfold qB
    by_cases hq : q < N
    · rw [if_pos hq, if_pos hq]; exact h3 q hq
    · rw [if_neg hq, if_neg hq]
theorem u_text (h : qInv n w) (day : Int32) : qBoth n w (mX11_text 0 day) (mX12_text 231 day) := by
  obtain ⟨K, hK, k1, k2⟩ := q_orders h
  obtain ⟨N, hN, t1, t2⟩ := q_taped h
  have n10 : ¬ (1 : Int32) = 0 := by decide
  have z2 : zin (2 : Int32) 21948 := by decide
  have C2 : (2 : Int32).toNatClampNeg = 2 := by decide
  by_cases hd : zOkN day 401
  rotate_left
  · exact qBoth_id h (-2) (by unfold mX11_text; rw [p_isDay11, if_neg hd, zcl_s, if_pos rfl]) (by unfold mX12_text; rw [p_isDay12, if_neg hd, zcl_s, if_pos rfl])
  have e11 : mX11_text 0 day w = if w 14 0 < 10 then zcl (mX3_spare 14 w) (fun r3 w4 => zgd (zShp r3 = (2, 8)) (zcl (mX4_read 216 12 r3 day w4) fun r6 w7 => if r6 < 0 then zcl (mX3_accept 14 w7) (fun r8 w9 => some (r8, w9)) else some (-10 - r6, w7))) else some (-4, w) := by
    unfold mX11_text mX11_text_75
    rw [p_isDay11, if_pos hd, zcl_s, if_neg n10]
  have e12 : ∀ v : zWd, v 232 2 = nI K → ¬ K = 10 → mX12_text 231 day v = zcl (mX12_readsOrder 231 (nI K) day v) (fun r3 w4 => if r3 = 0 then some (-10 - w4 231 11, w4) else some (w4 232 2 + 1 - 1, zup w4 232 2 (w4 232 2 + 1))) := by
    intro v hv h10
    unfold mX12_text
    rw [p_isDay12, if_pos hd, zcl_s, if_neg n10]
    simp only [zgd_t z2, C2, show 231 + 1 = 232 from rfl, hv, zbn_e, zu3]
    rw [if_neg (show ¬ nI K = 10 from fun q => h10 (by rw [show (10 : Int32) = nI 10 from rfl, nIe (by omega) (by omega)] at q; exact q))]
  by_cases h10 : K = 10
  · refine qBoth_id h (-4) ?_ ?_
    · rw [e11, k1, h10, if_neg (by decide)]
    · unfold mX12_text
      rw [p_isDay12, if_pos hd, zcl_s, if_neg n10]
      simp only [zgd_t z2, C2, show 231 + 1 = 232 from rfl, k2]
      rw [if_pos (show nI K = 10 by rw [h10]; rfl)]
  have hK9 : K ≤ 9 := by omega
  have hO : zShp (16 + 6 * K) = (2, 8) := by
    have : ∀ K : Fin 10, zShp (16 + 6 * K.1) = (2, 8) := by decide +kernel
    exact this ⟨K, by omega⟩
  have hsp : mX3_spare 14 w = some (16 + 6 * K, w) := by
    unfold mX3_spare
    rw [k1, zbn_e, if_neg (show ¬ (10 : Int32) < nI K from fun q => by rw [show (10 : Int32) = nI 10 from rfl, zlt, nIi (by omega), nIi (by omega)] at q; omega), zgd_t (show zin (nI K) 11 from vp_in_nI (by omega) (by decide)), nI_clamp (by omega)]
  have ht : qTp0 w (16 + 6 * K) N := ⟨t1, hN, hO, by omega, by omega⟩
  obtain ⟨u', m1, m2, m3⟩ := c_read w (16 + 6 * K) N ht day
  have ef : ∀ p, qB (w 13) N p = qB (fun i => w 232 (1880 + i)) N p := fun p => by
    unfold qB
    by_cases c : p < N
    · rw [if_pos c, if_pos c]
      have := qTo h 12 rfl (by decide) (i := p) (by omega)
      rw [Nat.zero_add] at this
      exact this
    · rw [if_neg c, if_neg c]
  rw [qCls_congr ef] at m1 m3
  rw [show mX11_text 0 day = fun w => mX11_text 0 day w from rfl]
  have hv : ∀ v : zWd, v 232 = w 232 → ∃ x w', mX12_readsOrder 231 (nI K) day v = some (x, w') ∧ qHo v K N day x w' := fun v e => h_order day (by omega) hN (by rw [e]; exact t2)
  match e : qCls (fun i => w 232 (1880 + i)) N 8 0 [] with
  | (p', none) =>
    rw [e] at m1 m3
    simp only at m1 m3
    have hv232 : zup u' 12 0 0 232 = w 232 := by rw [zpE _ _ _ (by decide)]; exact m2 232 (by decide) (by omega)
    obtain ⟨x, w', g1, g2⟩ := hv _ hv232
    unfold qHo at g2
    rw [hv232, e] at g2
    obtain ⟨g3, g4, g5, g6, g7, g8⟩ := g2
    refine ⟨-10 - nI p', zup u' 12 0 0, w', ?_, ?_, ?_⟩
    · show mX11_text 0 day w = _
      rw [e11, k1, if_pos (show nI K < 10 by rw [show (10 : Int32) = nI 10 from rfl]; exact nI_lt (by omega) (by omega)), hsp, zcl_s, zgd_t hO, m1, zcl_s, if_neg (show ¬ nI p' < 0 from fun q => by rw [zlt, nIi (by omega)] at q; have : (0 : Int32).toInt = 0 := rfl; omega)]
    · rw [e12 _ (by rw [hv232]; exact k2) h10, g1, zcl_s, if_pos g7, g8]
    · refine t_fin h hK9 k2 (M := K) (Or.inl rfl) (fun c c1 c2 c3 c4 c5 c6 => ?_) ?_ ?_ (fun j hj => ?_) (fun j j1 j2 j3 j4 j5 j6 => ?_) g6 ?_ (fun q => absurd q (by omega))
      · rw [g3 c c2 c3, zpE _ _ _ c4, m2 c c1 (by omega)]
      · rw [g3 12 (by decide) (by decide), zu3]
      · rw [g3 14 (by decide) (by decide), zpE _ _ _ (by decide), m2 14 (by decide) (by omega)]; exact k1
      · rw [g4 j hj, zpE _ _ _ (by decide), m2 231 (by decide) (by omega)]
      · rw [g5 j j1 j3 j4 (by omega) j6]
      · rw [g5 2 (by omega) (by omega) (by omega) (by omega) (fun k hk => by unfold qPut; omega)]; exact k2
  | (p', some cs) =>
    rw [e] at m1 m3
    simp only at m1 m3
    obtain ⟨m4, b, hb, m5⟩ := m3
    have hv232 : zup (zup u' 12 0 0) 14 0 (nI (K + 1)) 232 = w 232 := by rw [zpE _ _ _ (by decide), zpE _ _ _ (by decide)]; exact m2 232 (by decide) (by omega)
    have h14 : zup u' 12 0 0 14 0 = nI K := by rw [zpE _ _ _ (by decide), m2 14 (by decide) (by omega)]; exact k1
    obtain ⟨x, w', g1, g2⟩ := hv _ hv232
    unfold qHo at g2
    rw [hv232, e] at g2
    obtain ⟨g3, g4, g5, g6, g7, g8, g9, g10, g11⟩ := g2
    have w2K : w' 232 2 = nI K := by rw [g5 2 (by omega) (by omega) (by omega) (by omega) (fun k hk => by unfold qPut; omega)]; exact k2
    have z : ∀ j, j ≠ 2 → zup w' 232 2 (nI (K + 1)) 232 j = w' 232 j := fun j hj => zu2 _ _ hj
    have zc : ∀ c, c ≠ 231 → c ≠ 232 → zup w' 232 2 (nI (K + 1)) c = zup (zup u' 12 0 0) 14 0 (nI (K + 1)) c := fun c c1 c2 => by rw [zpE _ _ _ c2]; exact g3 c c1 c2
    have zo : ∀ c, c ≠ 231 → c ≠ 232 → c ≠ 12 → c ≠ 14 → zup w' 232 2 (nI (K + 1)) c = u' c := fun c c1 c2 c3 c4 => by rw [zc c c1 c2, zpE _ _ _ c4, zpE _ _ _ c3]
    refine ⟨nI K, zup (zup u' 12 0 0) 14 0 (nI (K + 1)), zup w' 232 2 (nI (K + 1)), ?_, ?_, ?_⟩
    · show mX11_text 0 day w = _
      rw [e11, k1, if_pos (show nI K < 10 by rw [show (10 : Int32) = nI 10 from rfl]; exact nI_lt (by omega) (by omega)), hsp, zcl_s, zgd_t hO, m1, zcl_s, if_pos (by decide)]
      unfold mX3_accept
      rw [zbn_e, h14, zbn_e, ← nI_succ, if_neg (show ¬ (11 : Int32) < nI (K + 1) from fun q => by rw [show (11 : Int32) = nI 11 from rfl, zlt, nIi (by omega), nIi (by omega)] at q; omega), zbn_e, zcl_s]
    · rw [e12 _ (by rw [hv232]; exact k2) h10, g1, zcl_s, if_neg (by rw [g7]; decide), w2K, ← nI_succ, show nI (K + 1) - 1 = nI K by rw [show (1 : Int32) = nI 1 from rfl, pk_sub (by omega)]; congr 1]
    · refine t_fin h hK9 k2 (M := K + 1) (Or.inr rfl) (fun c c1 c2 c3 c4 c5 c6 => ?_) ?_ ?_ (fun j hj => ?_) (fun j j1 j2 j3 j4 j5 j6 => ?_) ?_ (by rw [zu3]) (fun _ => ?_)
      · rw [zo c c2 c3 c4 c5, m2 c c1 (by omega)]
      · rw [zc 12 (by decide) (by decide), zpE _ _ _ (by decide), zu3]
      · rw [zc 14 (by decide) (by decide), zu3]
      · rw [zpE _ _ _ (by decide), g4 j hj, zpE _ _ _ (by decide), zpE _ _ _ (by decide), m2 231 (by decide) (by omega)]
      · rw [z j j2, g5 j j1 j3 j4 (by omega) j6]
      · rw [z 6 (by decide)]; exact g6
      · have hck : qCk (zup w' 232 2 (nI (K + 1))) (16 + 6 * K) cs b := by
          obtain ⟨q1, q2, q3⟩ := m5
          unfold qCk
          rw [zo (16 + 6 * K) (by omega) (by omega) (by omega) (by omega), zo (16 + 6 * K + 1) (by omega) (by omega) (by omega) (by omega), zo (16 + 6 * K + 2) (by omega) (by omega) (by omega) (by omega), zo (16 + 6 * K + 3) (by omega) (by omega) (by omega) (by omega), zo (16 + 6 * K + 4) (by omega) (by omega) (by omega) (by omega), zo (16 + 6 * K + 5) (by omega) (by omega) (by omega) (by omega)]
          exact ⟨q1, q2, q3⟩
        have hmk : qMk (zup w' 232 2 (nI (K + 1))) K cs := by
          obtain ⟨q1, q2⟩ := g11
          refine ⟨by rw [z _ (by omega)]; exact q1, fun i hi => ?_⟩
          rw [z _ (by omega), z _ (by omega), z _ (by omega)]
          exact q2 i hi
        have hd2 : 0 ≤ day.toInt ∧ day.toInt ≤ 400 := by unfold zOkN at hd; omega
        exact t_new h hK9 hN hd2 e hck hb (by rw [zo _ (by omega) (by omega) (by omega) (by omega)]; exact m4) (by rw [z _ (by omega)]; exact g8) (by rw [z _ (by omega)]; exact g9) (fun i hi => by rw [z _ (by omega)]; exact g10 i hi) hmk
end UT
