/-! TRIED -/
section UY
variable {n : Nat} {w : zWd}
theorem t_core (h : qInv n w) (hn : n < 100000) {D : Nat} (hD : D ≤ 400) (d1 : w 1 0 = nI D) (d2 : w 232 0 = nI D) (v1 d : Int32) (hv : v1 = 0 ∨ (v1 = 1 ∧ ∃ dn, dn < D ∧ d = nI dn)) : ∃ (r : Int32) (w1 w2 : zWd), mX11_tried_29 0 v1 d w = some (r, w1) ∧ w1 232 = w 232 ∧ mX12_tried_24 231 v1 d w1 = some (r, w2) ∧ qInv (n + 1) w2 := by
  obtain ⟨K, hK, k1, k2⟩ := q_orders h
  obtain ⟨N, hN, t1, t2⟩ := q_taped h
  obtain ⟨P, hP, e1, e2⟩ := q_takers h
  have i10 : ¬ (1 : Int32) = 0 := by decide
  have i01 : ¬ (0 : Int32) = 1 := by decide
  have z2 : zin (2 : Int32) 21948 := by decide
  have z0 : zin (0 : Int32) 21948 := by decide
  have z3 : zin (3 : Int32) 21948 := by decide
  have z08 : zin (0 : Int32) 8 := by decide
  have C2 : (2 : Int32).toNatClampNeg = 2 := by decide
  have C3 : (3 : Int32).toNatClampNeg = 3 := by decide
  have hO : zShp (16 + 6 * K) = (2, 8) := by
    have : ∀ K : Fin 11, zShp (16 + 6 * K.1) = (2, 8) := by decide +kernel
    exact this ⟨K, by omega⟩
  have hsp : mX3_spare 14 w = some (16 + 6 * K, w) := by
    unfold mX3_spare
    rw [k1, zbn_e, if_neg (show ¬ (10 : Int32) < nI K from fun q => by rw [show (10 : Int32) = nI 10 from rfl, zlt, nIi (by omega), nIi (by omega)] at q; omega), zgd_t (show zin (nI K) 11 from vp_in_nI (by omega) (by decide)), nI_clamp (by omega)]
  have ht : qTp0 w (16 + 6 * K) N := ⟨t1, hN, hO, by omega, by omega⟩
  obtain ⟨u', m1, m2, m3⟩ := c_read w (16 + 6 * K) N ht (nI D)
  have ef : ∀ p, qB (w 13) N p = qB (fun i => w 232 (1880 + i)) N p := fun p => by
    unfold qB
    by_cases c : p < N
    · rw [if_pos c, if_pos c]
      have := qTo h 12 rfl (by decide) (i := p) (by omega)
      rw [Nat.zero_add] at this
      exact this
    · rw [if_neg c, if_neg c]
  rw [qCls_congr ef] at m1 m3
  have e29 : mX11_tried_29 0 v1 d w = zcl (mX4_read 216 12 (16 + 6 * K) (nI D) w) (fun r8 w9 => if r8 < 0 then (zcl (mX3_accept 14 w9) fun _ w11 => zcl (mX5_form 217 14 82 (w11 1 0) w11) fun _ w13 => zcl (mX3_forgetLast 14 w13) fun _ w15 => if v1 = 0 then (if w15 217 0 ≤ 0 then (mX11_tried_146 (-1 : Int32) w15) else (zgd (zin (0 : Int32) 8) (mX11_tried_146 (w15 219 (0 : Int32).toNatClampNeg) w15))) else (zcl (mX11_servedOf 0 d w15) fun r16 w17 => zcl (mJ6_bitCount_0f7a4 r16 w17) fun r18 w19 => some (r18, w19))) else (some ((-10 : Int32) - r8, w9))) := by
    unfold mX11_tried_29
    show zcl (mX3_spare 14 w) _ = _
    rw [hsp, zcl_s, zgd_t hO]
    show zcl (mX4_read 216 12 (16 + 6 * K) (w 1 0) w) _ = _
    rw [d1]
  have e24 : ∀ v : zWd, v 232 = w 232 → mX12_tried_24 231 v1 d v = zcl (mX12_readsOrder 231 (nI K) (nI D) v) (fun r5 w6 => if r5 = 0 then (some ((-10 : Int32) - (w6 231 11), w6)) else (zbn (zup w6 232 2 ((w6 232 2) + (1 : Int32))) fun w7 => if v1 = (1 : Int32) then (zcl (mX12_mixOf 231 d (w7 232 0) w7) fun r8 w9 => zcl (mX12_count1 r8 w9) fun r10 w11 => mX12_tried_112 231 r10 w11) else (if (w7 232 3) ≤ 0 then (mX12_tried_112 231 (-1 : Int32) w7) else (zcl (mX12_rows 231 (w7 232 0) w7) fun _ w14 => zbn (w14 240 0) fun x15 => mX12_tried_112 231 x15 w14)))) := by
    intro v hv
    unfold mX12_tried_24
    simp only [zgd_t z2, zgd_t z0, zgd_t z3, zgd_t z08, C2, C3, C0, Nat.reduceAdd, hv, k2, d2]
  have e112 : ∀ (r : Int32) (v : zWd), v 232 2 = nI (K + 1) → mX12_tried_112 231 r v = some (r, zup v 232 2 (nI K)) := by
    intro r v hv
    unfold mX12_tried_112
    simp only [zgd_t z2, C2, Nat.reduceAdd, hv, zbn_e]
    rw [show nI (K + 1) - 1 = nI K by rw [show (1 : Int32) = nI 1 from rfl, pk_sub (by omega)]; congr 1]
  match e : qCls (fun i => w 232 (1880 + i)) N 8 0 [] with
  | (p', none) =>
    rw [e] at m1 m3
    simp only at m1 m3
    have hv232 : zup u' 12 0 0 232 = w 232 := by rw [zpE _ _ _ (by decide)]; exact m2 232 (by decide) (by omega)
    obtain ⟨x, w', g1, g2⟩ := h_order (w := zup u' 12 0 0) (nI D) (show K ≤ 10 by omega) hN (by rw [hv232]; exact t2)
    unfold qHo at g2
    rw [hv232, e] at g2
    obtain ⟨g3, g4, g5, g6, g7, g8⟩ := g2
    have fr : ∀ c, c ≠ 216 → c ≠ 231 → c ≠ 232 → c ≠ 12 → (c < 16 + 6 * K ∨ 21 + 6 * K < c) → w' c = w c := fun c c1 c2 c3 c4 c5 => by rw [g3 c c2 c3, zpE _ _ _ c4, m2 c c1 (by omega)]
    refine ⟨-10 - nI p', zup u' 12 0 0, w', ?_, hv232, ?_, ?_⟩
    · rw [e29, m1, zcl_s, if_neg (show ¬ nI p' < 0 from fun q => by rw [zlt, nIi (by omega)] at q; have : (0 : Int32).toInt = 0 := rfl; omega)]
    · rw [e24 _ hv232, g1, zcl_s, if_pos g7, g8]
    · refine y_fin h hK k2 (fun c c1 c2 c3 c4 => fr c (by omega) (by omega) (by omega) c2 c4) ?_ ?_ ?_ (fun j j1 j2 j3 j4 j5 j6 => g5 j j1 j3 j4 (by omega) j6) g6 ?_ (h.2.2.2.2.mono (Nat.le_succ n) (fr 220 (by decide) (by decide) (by decide) (by decide) (by omega)) (fr 225 (by decide) (by decide) (by decide) (by decide) (by omega)))
      · rw [g3 12 (by decide) (by decide), zu3]
      · rw [fr 14 (by decide) (by decide) (by decide) (by decide) (by omega)]; exact k1
      · rw [g4 3 (by decide), zpE _ _ _ (by decide), m2 231 (by decide) (by omega)]
      · rw [g5 2 (by omega) (by omega) (by omega) (by omega) (fun k hk => by unfold qPut; omega)]; exact k2
  | (p', some cs) =>
    rw [e] at m1 m3
    simp only at m1 m3
    obtain ⟨m4, b, hb, m5⟩ := m3
    obtain ⟨w11, hw11⟩ : ∃ w11, w11 = zup (zup u' 12 0 0) 14 0 (nI (K + 1)) := ⟨_, rfl⟩
    have h14 : zup u' 12 0 0 14 0 = nI K := by rw [zpE _ _ _ (by decide), m2 14 (by decide) (by omega)]; exact k1
    have hacc : mX3_accept 14 (zup u' 12 0 0) = some (nI K, w11) := by
      unfold mX3_accept
      rw [zbn_e, h14, zbn_e, ← nI_succ, if_neg (show ¬ (11 : Int32) < nI (K + 1) from fun q => by rw [show (11 : Int32) = nI 11 from rfl, zlt, nIi (by omega), nIi (by omega)] at q; omega), zbn_e, hw11]
    have fu : ∀ c, c ≠ 216 → c ≠ 12 → c ≠ 14 → (c < 16 + 6 * K ∨ 21 + 6 * K < c) → w11 c = w c := fun c c1 c2 c3 c4 => by rw [hw11, zpE _ _ _ c3, zpE _ _ _ c2, m2 c c1 (by omega)]
    have fo : ∀ c, c ≠ 12 → c ≠ 14 → w11 c = u' c := fun c c2 c3 => by rw [hw11, zpE _ _ _ c3, zpE _ _ _ c2]
    have hc14 : w11 14 0 = nI (K + 1) := by rw [hw11, zu3]
    have hck : qCk w11 (16 + 6 * K) cs b := by
      obtain ⟨q1, q2, q3⟩ := m5
      unfold qCk
      rw [fo (16 + 6 * K) (by omega) (by omega), fo (16 + 6 * K + 1) (by omega) (by omega), fo (16 + 6 * K + 2) (by omega) (by omega), fo (16 + 6 * K + 3) (by omega) (by omega), fo (16 + 6 * K + 4) (by omega) (by omega), fo (16 + 6 * K + 5) (by omega) (by omega)]
      exact ⟨q1, q2, q3⟩
    have e232 : w11 232 = w 232 := fu 232 (by decide) (by decide) (by decide) (by omega)
    have try_ := fun (v : zWd) (hv : v 232 = w 232) => y_try (n := n) (w := w) (uc := w11) (D := D) h hK k2 hN t2 hD (fun c c1 c2 c3 c4 c5 => fu c (by omega) c3 c4 c5) hc14 e hck hb (by rw [fo _ (by omega) (by omega)]; exact m4) v hv
    have rows_ : ∀ m : zWd, yW (yHy w11 m) → m 232 3 = nI P → ∃ R : Nat → Int32, (∃ u1, mX5_form 217 14 82 (nI D) w11 = some ((), u1) ∧ (∀ a, a ≠ 217 → a ≠ 218 → a ≠ 219 → u1 a = w11 a) ∧ u1 217 0 = nI P ∧ u1 219 = qLn R (w11 87) P (w11 219)) ∧ ∀ u : zWd, u 232 = m 232 → ∃ u2, mX12_rows 231 (nI D) u = some ((), u2) ∧ (∀ a, a ≠ 231 → a ≠ 240 → a ≠ 241 → u2 a = u a) ∧ (∀ j, j < 10 ∨ 14 < j → u2 231 j = u 231 j) ∧ u2 240 = qLn R (w11 87) P (u 240) := by
      intro m hy h3
      obtain ⟨R, r1, _, r3⟩ := y_row hy (nI D) hP (by rw [yHy_c _ _ (by decide), fu 82 (by decide) (by decide) (by decide) (by omega)]; exact e1) (by rw [yHy_m]; exact h3)
      rw [yHy_c _ _ (show 87 ≠ 232 by decide)] at r1 r3
      refine ⟨R, ?_, fun u hu => ?_⟩
      · obtain ⟨u1, f1, f2, f3, _, f5⟩ := r1 w11 (fun a a1 a2 => (yHy_c _ _ (by omega)).symm)
        exact ⟨u1, f1, f2, f3, f5⟩
      · obtain ⟨u2, f1, f2, f3, _, f5⟩ := r3 u (by rw [yHy_m]; exact hu)
        exact ⟨u2, f1, f2, f3, f5⟩
    have m3e : ∀ w' : zWd, (∀ j, j ≠ 6 → j ≠ 2 → j ≠ 240 + K → j ≠ 252 + K → (j < 264 + 120 * K ∨ 264 + 120 * K + 120 ≤ j) → (∀ k, k ≤ 7 → ¬ qPut K k j) → w' 232 j = w 232 j) → zup w' 232 2 (nI (K + 1)) 232 3 = nI P := fun w' hs => by
      rw [zu2 _ _ (by decide), hs 3 (by omega) (by omega) (by omega) (by omega) (by omega) (fun k hk => by unfold qPut; omega)]; exact e2
    -- the class
    obtain ⟨wa, _, _, _, a4, _, _, a7⟩ := try_ w11 e232
    obtain ⟨R0, ⟨u1, f1, f2, f3, f5⟩, _⟩ := rows_ _ a7 (m3e wa a4)
    have hx : ∀ j : Nat, ∃ t : Nat, j < P → t < P ∧ u1 219 j = nI t := fun j => by
      by_cases hj : j < P
      · obtain ⟨t, a, b⟩ := qLn_v (R := R0) (S := w11 87) P (w11 219) j hj
        exact ⟨t, fun _ => ⟨a, by rw [f5]; exact b⟩⟩
      · exact ⟨0, fun q => absurd q hj⟩
    obtain ⟨T, hT⟩ := Classical.axiomOfChoice hx
    have hform : mX5_form 217 14 82 (w11 1 0) w11 = some ((), u1) := by
      rw [fu 1 (by decide) (by decide) (by decide) (by omega), d1]; exact f1
    have hfor : mX3_forgetLast 14 u1 = some ((), zup u1 14 0 (nI K)) := by
      unfold mX3_forgetLast
      rw [f2 14 (by decide) (by decide) (by decide), hc14, show nI (K + 1) - 1 = nI K by rw [show (1 : Int32) = nI 1 from rfl, pk_sub (by omega)]; congr 1]
      have : (if (0 : Int32) < nI K then nI K else 0) = nI K := by
        by_cases c : 0 < K
        · rw [if_pos (show (0 : Int32) < nI K from nI_lt (a := 0) c (by omega))]
        · obtain rfl : K = 0 := by omega
          rfl
      rw [this, zbn_e, zbn_e]
    obtain ⟨w15, hw15⟩ : ∃ w15, w15 = zup u1 14 0 (nI K) := ⟨_, rfl⟩
    rw [← hw15] at hfor
    have f15 : ∀ c, c ≠ 14 → c ≠ 217 → c ≠ 218 → c ≠ 219 → w15 c = w11 c := fun c c1 c2 c3 c4 => by rw [hw15, zpE _ _ _ c1]; exact f2 c c2 c3 c4
    have w15w : ∀ c, c ≠ 216 → c ≠ 12 → c ≠ 14 → c ≠ 217 → c ≠ 218 → c ≠ 219 → (c < 16 + 6 * K ∨ 21 + 6 * K < c) → w15 c = w c := fun c c0 c1 c2 c3 c4 c5 c6 => by rw [f15 c c2 c3 c4 c5]; exact fu c c0 c1 c2 c6
    have w15_12 : w15 12 0 = 0 := by rw [f15 12 (by decide) (by decide) (by decide) (by decide), hw11, zpE _ _ _ (by decide), zu3]
    have w15_14 : w15 14 0 = nI K := by rw [hw15, zu3]
    have w217 : w15 217 0 = nI P := by rw [hw15, zpE _ _ _ (by decide)]; exact f3
    have w219 : ∀ j, w15 219 j = u1 219 j := fun j => by rw [hw15, zpE _ _ _ (by decide)]
    -- the model's end
    have fin_ : ∀ (v w2 : zWd) (w' : zWd), (∀ c, c ≤ 205 ∨ c = 233 → v c = w15 c) → v 231 = w15 231 → (∀ c, c ≠ 231 → c ≠ 232 → w' c = v c) → (∀ j, j < 10 ∨ 14 < j → w' 231 j = v 231 j) → (∀ j, j ≠ 6 → j ≠ 2 → j ≠ 240 + K → j ≠ 252 + K → (j < 264 + 120 * K ∨ 264 + 120 * K + 120 ≤ j) → (∀ k, k ≤ 7 → ¬ qPut K k j) → w' 232 j = w 232 j) → w' 232 6 = 0 → (∀ c, c ≤ 205 ∨ c = 233 → w2 c = w' c) → w2 231 3 = w' 231 3 → w2 232 = zup w' 232 2 (nI (K + 1)) 232 → qMx (n + 1) w2 → qInv (n + 1) (zup w2 232 2 (nI K)) := by
      intro v w2 w' c1 c2 c3 c4 c5 c6 c7 c8 c9 c10
      have fr : ∀ c, c ≤ 205 ∨ c = 233 → zup w2 232 2 (nI K) c = w15 c := fun c hc => by rw [zpE _ _ _ (by omega), c7 c hc, c3 c (by omega) (by omega), c1 c hc]
      refine y_fin h hK k2 (fun c hc q1 q2 q3 => by rw [fr c hc]; exact w15w c (by omega) q1 q2 (by omega) (by omega) (by omega) q3) ?_ ?_ ?_ (fun j j1 j2 j3 j4 j5 j6 => ?_) ?_ (by rw [zu3]) ?_
      · rw [fr 12 (by decide)]; exact w15_12
      · rw [fr 14 (by decide)]; exact w15_14
      · rw [zpE _ _ _ (by decide), c8, c4 3 (by decide), c2, w15w 231 (by decide) (by decide) (by decide) (by decide) (by decide) (by decide) (by omega)]
      · rw [zu2 _ _ j2, c9, zu2 _ _ j2]; exact c5 j j1 j2 j3 j4 j5 j6
      · rw [zu2 _ _ (by decide), c9, zu2 _ _ (by decide)]; exact c6
      · exact c10.mono (Nat.le_refl _) (zpE _ _ _ (by decide)) (zpE _ _ _ (by decide))
    have q232 : ∀ w' : zWd, (∀ j, j ≠ 6 → j ≠ 2 → j ≠ 240 + K → j ≠ 252 + K → (j < 264 + 120 * K ∨ 264 + 120 * K + 120 ≤ j) → (∀ k, k ≤ 7 → ¬ qPut K k j) → w' 232 j = w 232 j) → zup w' 232 2 (nI (K + 1)) 232 0 = nI D := fun w' hs => by
      rw [zu2 _ _ (by decide), hs 0 (by omega) (by omega) (by omega) (by omega) (by omega) (fun k hk => by unfold qPut; omega)]; exact d2
    -- the model's row is the class's
    have line_ : ∀ w' : zWd, yW (yHy w11 (zup w' 232 2 (nI (K + 1)))) → zup w' 232 2 (nI (K + 1)) 232 3 = nI P → ∀ u : zWd, u 232 = zup w' 232 2 (nI (K + 1)) 232 → ∃ u2, mX12_rows 231 (nI D) u = some ((), u2) ∧ (∀ a, a ≠ 231 → a ≠ 240 → a ≠ 241 → u2 a = u a) ∧ (∀ j, j < 10 ∨ 14 < j → u2 231 j = u 231 j) ∧ ∀ j, j < P → u2 240 j = u1 219 j := by
      intro w' hy h3 u hu
      obtain ⟨R2, ⟨u3, q1, _, _, q4⟩, q5⟩ := rows_ _ hy h3
      obtain rfl : u1 = u3 := by rw [f1] at q1; exact (Prod.mk.inj (Option.some.inj q1)).2
      obtain ⟨u2, x1, x2, x3, x4⟩ := q5 u hu
      exact ⟨u2, x1, x2, x3, fun j hj => by rw [x4, q4]; exact qLn_j P _ _ j hj⟩
    rcases hv with rfl | ⟨rfl, dn, hdn, rfl⟩
    · -- the first of THE ROW
      have v232 : w15 232 = w 232 := w15w 232 (by decide) (by decide) (by decide) (by decide) (by decide) (by decide) (by omega)
      obtain ⟨w', b1, b2, b3, b4, b5, b6, b7⟩ := try_ w15 v232
      have qm : qMx (n + 1) w15 := h.2.2.2.2.mono (Nat.le_succ n) (w15w 220 (by decide) (by decide) (by decide) (by decide) (by decide) (by decide) (by omega)) (w15w 225 (by decide) (by decide) (by decide) (by decide) (by decide) (by decide) (by omega))
      have ecl : mX11_tried_29 0 0 d w = if w15 217 0 ≤ 0 then (mX11_tried_146 (-1 : Int32) w15) else (zgd (zin (0 : Int32) 8) (mX11_tried_146 (w15 219 (0 : Int32).toNatClampNeg) w15)) := by
        rw [e29, m1, zcl_s, if_pos (by decide), hacc, zcl_s, hform, zcl_s, hfor, zcl_s, if_pos rfl]
      have w6 : w' 232 2 + 1 = nI (K + 1) := by rw [b6, ← nI_succ]
      have emo : mX12_tried_24 231 0 d w15 = (if (zup w' 232 2 (nI (K + 1)) 232 3) ≤ 0 then (mX12_tried_112 231 (-1 : Int32) (zup w' 232 2 (nI (K + 1)))) else (zcl (mX12_rows 231 (zup w' 232 2 (nI (K + 1)) 232 0) (zup w' 232 2 (nI (K + 1)))) fun _ w14 => zbn (w14 240 0) fun x15 => mX12_tried_112 231 x15 w14)) := by
        rw [e24 w15 v232, b1, zcl_s, if_neg i10, w6, zbn_e, if_neg i01]
      rw [m3e w' b4, q232 w' b4] at emo
      rw [w217] at ecl
      by_cases c : P = 0
      · refine ⟨-1, w15, zup (zup w' 232 2 (nI (K + 1))) 232 2 (nI K), ?_, v232, ?_, ?_⟩
        · rw [ecl, if_pos (show nI P ≤ 0 by rw [c]; decide)]; rfl
        · rw [emo, if_pos (show nI P ≤ 0 by rw [c]; decide), e112 _ _ (zu3 _ _ _ _)]
        · refine fin_ w15 (zup w' 232 2 (nI (K + 1))) w' (fun _ _ => rfl) rfl b2 b3 b4 b5 (fun c hc => zpE _ _ _ (by omega)) (by rw [zpE _ _ _ (by decide)]) rfl (qm.mono (Nat.le_refl _) ?_ ?_)
          · rw [zpE _ _ _ (by decide), b2 220 (by decide) (by decide)]
          · rw [zpE _ _ _ (by decide), b2 225 (by decide) (by decide)]
      · obtain ⟨u2, x1, x2, x3, x4⟩ := line_ w' b7 (m3e w' b4) (zup w' 232 2 (nI (K + 1))) rfl
        have p0 : ¬ nI P ≤ 0 := fun q => by rw [zle, nIi (by omega), T0] at q; omega
        refine ⟨u1 219 0, w15, zup u2 232 2 (nI K), ?_, v232, ?_, ?_⟩
        · rw [ecl, if_neg p0, zgd_t z08, C0, w219 0]; rfl
        · rw [emo, if_neg p0, x1, zcl_s, zbn_e, x4 0 (by omega), e112 _ _ (by rw [x2 232 (by decide) (by decide) (by decide), zu3])]
        · refine fin_ w15 u2 w' (fun _ _ => rfl) rfl b2 b3 b4 b5 (fun c hc => by rw [x2 c (by omega) (by omega) (by omega), zpE _ _ _ (by omega)]) (by rw [x3 3 (by decide), zpE _ _ _ (by decide)]) (x2 232 (by decide) (by decide) (by decide)) (qm.mono (Nat.le_refl _) ?_ ?_)
          · rw [x2 220 (by decide) (by decide) (by decide), zpE _ _ _ (by decide), b2 220 (by decide) (by decide)]
          · rw [x2 225 (by decide) (by decide) (by decide), zpE _ _ _ (by decide), b2 225 (by decide) (by decide)]
    · -- how many are SERVED
      have ww : ∀ c, c = 1 ∨ c = 2 ∨ c = 7 ∨ c = 205 ∨ (82 ≤ c ∧ c ≤ 93) ∨ c = 220 ∨ c = 225 ∨ c = 232 → w15 c = w c := fun c hc => w15w c (by omega) (by omega) (by omega) (by omega) (by omega) (by omega) (by omega)
      obtain ⟨B, ⟨bb, hbb, rfl⟩, s1, s2⟩ := q_served h hn hdn hD d1 d2 hP e1 e2 (T := T) (fun j hj => (hT j hj).1)
      obtain ⟨wC, c1, c2, r', c3, c4⟩ := s1 w15 ⟨ww 1 (by omega), ww 2 (by omega), ww 7 (by omega), ww 205 (by omega), fun a a1 a2 => ww a (by omega)⟩ (ww 220 (by omega)) (ww 225 (by omega)) w217 (fun j hj => by rw [w219 j]; exact (hT j hj).2)
      have v232 : wC 232 = w 232 := by rw [c2 232 (by decide)]; exact ww 232 (by omega)
      obtain ⟨w', b1, b2, b3, b4, b5, b6, b7⟩ := try_ wC v232
      have w6 : w' 232 2 + 1 = nI (K + 1) := by rw [b6, ← nI_succ]
      obtain ⟨u2, x1, x2, x3, x4⟩ := line_ w' b7 (m3e w' b4) (zup w' 232 2 (nI (K + 1))) rfl
      have hM : qxM (w 232) (u2 232) := fun j j1 j2 j3 => by
        rw [x2 232 (by decide) (by decide) (by decide), zu2 _ _ j1]
        exact b4 j j2 j1 (by omega) (by omega) (by omega) (fun k hk => by unfold qPut; omega)
      obtain ⟨u3, y1, y2⟩ := s2 u2 hM (fun j hj => by rw [x4 j hj]; exact (hT j hj).2)
      have hmx : mX12_mixOf 231 (nI dn) (nI D) (zup w' 232 2 (nI (K + 1))) = some (nI bb, u3) := by
        unfold mX12_mixOf
        rw [x1, zcl_s, y1]
      refine ⟨qPc bb, wC, zup u3 232 2 (nI K), ?_, v232, ?_, ?_⟩
      · rw [e29, m1, zcl_s, if_pos (by decide), hacc, zcl_s, hform, zcl_s, hfor, zcl_s, if_neg i10, c1, zcl_s, bc_w, zcl_s, qPc_32 hbb]
      · rw [e24 wC v232, b1, zcl_s, if_neg i10, w6, zbn_e, if_pos rfl, q232 w' b4, hmx, zcl_s, s_count1 hbb, zcl_s, e112 _ _ (by rw [y2 232 (by decide), x2 232 (by decide) (by decide) (by decide), zu3])]
      · refine fin_ wC u3 w' (fun c hc => c2 c (by omega)) (c2 231 (by decide)) b2 b3 b4 b5 (fun c hc => by rw [y2 c (by omega), x2 c (by omega) (by omega) (by omega), zpE _ _ _ (by omega)]) (by rw [y2 231 (by decide), x3 3 (by decide), zpE _ _ _ (by decide)]) (by rw [y2 232 (by decide), x2 232 (by decide) (by decide) (by decide)]) ?_
        have e220 : u3 220 = wC 220 := by rw [y2 220 (by decide), x2 220 (by decide) (by decide) (by decide), zpE _ _ _ (by decide), b2 220 (by decide) (by decide)]
        have e225 : u3 225 = wC 225 := by rw [y2 225 (by decide), x2 225 (by decide) (by decide) (by decide), zpE _ _ _ (by decide), b2 225 (by decide) (by decide)]
        unfold qMx
        rw [e220, e225]
        exact ⟨c4.1, r', c4.2.1, c3, c4.2.2⟩
theorem u_tried (h : qInv n w) (hn : n < 100000) (v1 d : Int32) : qBoth n w (mX11_tried 0 v1 d) (mX12_tried 231 v1 d) := by
  obtain ⟨D, hD, d1, d2⟩ := q_today h
  have i10 : ¬ (1 : Int32) = 0 := by decide
  have i01 : ¬ (0 : Int32) = 1 := by decide
  have T2' : (2 : Int32).toInt = 2 := rfl
  by_cases hv : 0 ≤ v1.toInt ∧ v1.toInt < 2
  rotate_left
  · refine qBoth_id h (-1) ?_ ?_
    · unfold mX11_tried mX11_tried_27
      rw [p_within, if_neg (by rw [T2']; exact hv), zcl_s, if_pos rfl]
    · unfold mX12_tried mX12_tried_22
      rw [p_in, if_neg (by rw [T0, T1]; omega), zcl_s, if_pos rfl]
  have f0 : mX11_tried 0 v1 d w = if v1 = (1 : Int32) then (zcl (mX11_within d (w 1 0) w) fun r3 w4 => if r3 = 0 then (mX11_tried_27 w4) else (mX11_tried_29 0 v1 d w4)) else (mX11_tried_29 0 v1 d w) := by
    unfold mX11_tried
    rw [p_within, if_pos (by rw [T2']; exact hv), zcl_s, if_neg i10]
  have g0 : ∀ u : zWd, mX12_tried 231 v1 d u = if v1 = (1 : Int32) then (zcl (mX12_isGone 231 d u) fun r3 w4 => if r3 = 0 then (mX12_tried_22 w4) else (mX12_tried_24 231 v1 d w4)) else (mX12_tried_24 231 v1 d u) := by
    intro u
    unfold mX12_tried
    rw [p_in, if_pos (by rw [T0, T1]; omega), zcl_s, if_neg i10]
  have hg : ∀ u : zWd, u 232 = w 232 → mX12_isGone 231 d u = some (if zOkN d D then 1 else 0, u) := fun u hu => by
    rw [p_isGone _ _ (by rw [hu, d2, nIi (by omega)]; omega), hu, d2, nIi (by omega)]
  have hw : mX11_within d (w 1 0) w = some (if zOkN d D then 1 else 0, w) := by
    rw [p_within, d1, nIi (by omega)]
  by_cases h1 : v1 = 1
  rotate_left
  · have h0 : v1 = 0 := by rw [zeq, T0]; rw [zeq, T1] at h1; omega
    obtain ⟨r, w1, w2, q1, q2, q3, q4⟩ := t_core h hn hD d1 d2 v1 d (Or.inl h0)
    exact ⟨r, w1, w2, by rw [f0, if_neg h1]; exact q1, by rw [g0, if_neg h1]; exact q3, q4⟩
  rcases zX d D D rfl (by omega) with hd | ⟨dn, hd, rfl⟩
  · refine qBoth_id h (-1) ?_ ?_
    · rw [f0, if_pos h1, hw, if_neg hd, zcl_s, if_pos rfl]; rfl
    · rw [g0, if_pos h1, hg w rfl, if_neg hd, zcl_s, if_pos rfl]; rfl
  · have hd2 : zOkN (nI dn) D := zOk_nI (by omega) (by omega)
    obtain ⟨r, w1, w2, q1, q2, q3, q4⟩ := t_core h hn hD d1 d2 v1 (nI dn) (Or.inr ⟨h1, dn, hd, rfl⟩)
    refine ⟨r, w1, w2, ?_, ?_, q4⟩
    · rw [f0, if_pos h1, hw, if_pos hd2, zcl_s, if_neg i10]; exact q1
    · rw [g0, if_pos h1, hg w1 q2, if_pos hd2, zcl_s, if_neg i10]; exact q3
end UY
