theorem qInv.mx {n : Nat} {w u : zWd} (h : qInv n w) (h1 : ∀ k, k ≤ 205 ∨ k = 232 ∨ k = 233 → u k = w k) (h2 : u 231 3 = w 231 3) {r' : Nat} (hr : r' ≤ 8 * (n + 1)) (hm : qxMr u r') : qInv (n + 1) u := by
  have ev : ∀ b, b ≤ 103 → qVw u b = qVw w b := fun b hb => by
    funext o
    unfold qVw
    by_cases ho : o < 102
    · rw [if_pos ho, if_pos ho, h1 _ (by omega)]
    · rw [if_neg ho, if_neg ho]
  unfold qInv
  rw [ev 1 (by decide), ev 103 (by decide), h1 232 (by decide), h1 205 (by decide), h1 233 (by decide), h1 0 (by decide), h2]
  exact ⟨h.1, h.2.1, h.2.2.1, h.2.2.2.1, hm.1, r', hm.2.1, hr, hm.2.2⟩
theorem u_mix {n : Nat} {w : zWd} (h : qInv n w) (hn : n < 100000) (d : Int32) : qBoth n w (mX11_mix 0 d) (mX12_mix 231 d) := by
  obtain ⟨D, hD, d1, d2⟩ := q_today h
  obtain ⟨K, hK, e1, e2⟩ := q_takers h
  have i10 : ¬ (1 : Int32) = 0 := by decide
  rcases zX d D D rfl (by omega) with hd | ⟨d, hd, rfl⟩
  · refine qBoth_id h (-1) ?_ ?_
    · unfold mX11_mix
      rw [p_within, if_neg (show ¬ (0 ≤ d.toInt ∧ d.toInt < (w (0 + 1) 0).toInt) by rw [show w (0 + 1) 0 = nI D from d1, nIi (by omega)]; exact hd), zcl_s, if_pos rfl]
    · unfold mX12_mix mX12_mix_18
      rw [p_isGone _ _ (by rw [d2, nIi (by omega)]; omega), d2, nIi (by omega), if_neg hd, zcl_s, if_pos rfl]
  obtain ⟨R, r1, _, r3⟩ := q_row h (nI d) hK e1 e2
  obtain ⟨u, f1, f2, f3, f4, f5⟩ := r1 w (qRc.rf w)
  have hx : ∀ j : Nat, ∃ t : Nat, j < K → t < K ∧ qLn R (w 87) K (w 219) j = nI t := fun j => by
    by_cases hj : j < K
    · obtain ⟨t, a, b⟩ := qLn_v (R := R) (S := w 87) K (w 219) j hj
      exact ⟨t, fun _ => ⟨a, b⟩⟩
    · exact ⟨0, fun q => absurd q hj⟩
  obtain ⟨T, hT⟩ := Classical.axiomOfChoice hx
  obtain ⟨B, _, b1, b2⟩ := q_served h hn hd hD d1 d2 hK e1 e2 (T := T) (fun j hj => (hT j hj).1)
  obtain ⟨u1, c1, c2, r', c3, c4⟩ := b1 u ⟨f2 1 (by decide) (by decide) (by decide), f2 2 (by decide) (by decide) (by decide), f2 7 (by decide) (by decide) (by decide), f2 205 (by decide) (by decide) (by decide), fun a a1 a2 => f2 a (by omega) (by omega) (by omega)⟩ (f2 220 (by decide) (by decide) (by decide)) (f2 225 (by decide) (by decide) (by decide)) f3 (fun j hj => by rw [f5]; exact (hT j hj).2)
  have fr : ∀ a, a < 217 ∨ 225 < a → u1 a = w a := fun a ha => by rw [c2 a (by omega)]; exact f2 a (by omega) (by omega) (by omega)
  have e232 : u1 232 = w 232 := fr 232 (by decide)
  obtain ⟨u2, g1, g2, g3, g4, g5⟩ := r3 u1 e232
  have e232' : u2 232 = w 232 := (g2 232 (by decide) (by decide) (by decide)).trans e232
  obtain ⟨u3, x1, x2⟩ := b2 u2 (by rw [e232']; exact qxM.rf _) (fun j hj => by rw [g5, qLn_j K _ (w 219) j hj]; exact (hT j hj).2)
  refine ⟨B, u1, u3, ?_, ?_, h.mx (fun k hk => ?_) ?_ c3 ?_⟩
  · unfold mX11_mix
    rw [p_within, if_pos (show 0 ≤ (nI d).toInt ∧ (nI d).toInt < (w (0 + 1) 0).toInt by rw [show w (0 + 1) 0 = nI D from d1, nIi (by omega), nIi (by omega)]; omega), zcl_s, if_neg i10]
    show zcl (mX5_form 217 14 82 (nI d) w) _ = _
    rw [f1, zcl_s, c1, zcl_s]
  · unfold mX12_mix mX12_mix_18 mX12_mixOf
    rw [p_isGone _ _ (by rw [e232, d2, nIi (by omega)]; omega), e232, d2, nIi (by omega), if_pos (zOk_nI (by omega) (by omega)), zcl_s, if_neg i10, g1, zcl_s, x1, zcl_s]
  · rw [x2 k (by omega), g2 k (by omega) (by omega) (by omega)]; exact fr k (by omega)
  · rw [x2 231 (by decide), g3 3 (by decide), fr 231 (by decide)]
  · unfold qxMr at c4 ⊢
    rw [x2 220 (by decide), g2 220 (by decide) (by decide) (by decide), x2 225 (by decide), g2 225 (by decide) (by decide) (by decide)]
    exact c4
