/-! the class: the clauses in a row -/
theorem c_row (w0 : zWd) (O n : Nat) (ht : qTp0 w0 O n) : ∀ k (cs : List qCl1) p b u F, cs.length + k = 8 → p ≤ n → k + 1 ≤ F → qRr w0 O u p 0 cs b → ∃ u', zlp (fun (k : Int32 × zWd → Option (Int32 × zWd)) (q : Int32 × zWd) => mX4_read_31b 216 k q.1 q.2) F (nI cs.length, u) = (match qCls (w0 13) n k p cs with | (_, some _) => some (-1, zup u' 12 0 0) | (p', none) => some (nI p', zup u' 12 0 0)) ∧ (match qCls (w0 13) n k p cs with | (_, some cs2) => ∃ p b, p ≤ n ∧ qRr w0 O u' p 0 cs2 b | (p', none) => p' ≤ n ∧ ∃ cs b p e, qRr w0 O u' p e cs b) ∨ k = 0 := by
  have hn := ht.2.1
  have hO := ht.2.2.2.2
  intro k
  induction k with
  | zero => intro cs p b u F _ _ _ _; exact ⟨u, Or.inr rfl⟩
  | succ k ih =>
    intro cs p b u F h1 h2 h3 hq
    obtain ⟨F, rfl⟩ : ∃ F', F = F' + 1 := ⟨F - 1, by omega⟩
    rw [zlp_1]
    have ht1 := c_turn ht (by omega) hq h2 (zlp (fun (k : Int32 × zWd → Option (Int32 × zWd)) (q : Int32 × zWd) => mX4_read_31b 216 k q.1 q.2) F)
    have g := qCl_in (f := w0 13) hn h2
    show ∃ u', mX4_read_31b 216 (zlp (fun (k : Int32 × zWd → Option (Int32 × zWd)) (q : Int32 × zWd) => mX4_read_31b 216 k q.1 q.2) F) (nI cs.length) u = _ ∧ _ ∨ _
    unfold qCls
    match e : qCl (w0 13) n p with
    | (p', none) =>
      rw [e] at ht1 g
      obtain ⟨u', m1, cs2, b2, m2⟩ := ht1
      exact ⟨u', Or.inl ⟨m1, g.1, _, _, _, _, m2⟩⟩
    | (p', some c) =>
      rw [e] at ht1 g
      obtain ⟨u', b', m1, m2⟩ := ht1
      have gp : p' ≤ n := g.1
      obtain ⟨ht2, e13⟩ := m2.tp ht
      have e12 : u' 12 = w0 12 := m2.1 12 (by omega) (by have := ht.2.2.2.1; omega)
      have hR := m2.rw (by omega)
      simp only
      by_cases k0 : k = 0
      · rw [m1, if_pos (show nI cs.length = 7 by rw [show (7 : Int32) = nI 7 from rfl, nIe (by omega) (by omega)]; omega), c_142 ht m2.2.2.1 m2.2.2.2.2.1 m2.2.2.2.2.2.1 e12 gp, if_neg (show ¬ (¬ k = 0 ∧ qB (w0 13) n p' = 59) from fun q => q.1 k0)]
        by_cases en : p' = n
        · rw [if_pos ⟨rfl, en⟩, if_pos en]
          exact ⟨u', Or.inl ⟨rfl, _, _, gp, m2⟩⟩
        · rw [if_neg (show ¬ ((0 : Int32) = 0 ∧ p' = n) from fun q => en q.2), if_neg en]
          exact ⟨u', Or.inl ⟨rfl, gp, _, _, _, _, m2⟩⟩
      · rw [m1, if_neg (show ¬ nI cs.length = 7 from fun q => by rw [show (7 : Int32) = nI 7 from rfl, nIe (by omega) (by omega)] at q; omega), c_take0 ht2 hR (by omega) (by decide), e13]
        by_cases c59 : qB (w0 13) n p' = 59
        · have hpn := qB_in c59 (by decide)
          rw [if_pos c59, zcl_s, if_neg (show ¬ (1 : Int32) = 0 by decide), if_pos ⟨k0, c59⟩, ← nI_succ]
          have hq2 : qRr w0 O (zup u' 216 2 (nI (p' + 1))) (p' + 1) 0 (cs ++ [c]) b' := by
            obtain ⟨q1, q2, q3, q4, q5, q6, q7⟩ := m2
            obtain ⟨⟨r1, r2, r3⟩, r4⟩ := q7 rfl
            have hO16 := ht.2.2.2.1
            have z : ∀ a, a ≠ 216 → zup u' 216 2 (nI (p' + 1)) a = u' a := fun a ha => zpE _ _ _ ha
            refine ⟨fun a a1 a2 => by rw [z a a1]; exact q1 a a1 a2, by rw [z O (by omega)]; exact q2, by rw [zu2 _ _ (by decide)]; exact q3, by rw [zu2 _ _ (by decide)]; exact q4, by rw [zu3], by rw [zu2 _ _ (by decide)]; exact q6, fun _ => ⟨⟨by rw [z O (by omega)]; exact r1, by rw [z O (by omega)]; exact r2, fun i hi => ?_⟩, by omega⟩⟩
            obtain ⟨c, c1, c2, c3, b0, c4, c5, c6, c7⟩ := r3 i hi
            rw [z (O + 1) (by omega), z (O + 2) (by omega), z (O + 3) (by omega), z (O + 4) (by omega), z (O + 5) (by omega)]
            exact ⟨c, c1, c2, c3, b0, c4, c5, c6, c7⟩
          obtain ⟨u3, m3⟩ := ih (cs ++ [c]) (p' + 1) b' _ F (by rw [List.length_append]; show cs.length + 1 + k = 8; omega) (by omega) (by omega) hq2
          rw [List.length_append] at m3
          rcases m3 with m3 | m3
          · exact ⟨u3, Or.inl m3⟩
          · exact absurd m3 k0
        · rw [if_neg c59, zcl_s, if_pos rfl, c_142 ht m2.2.2.1 m2.2.2.2.2.1 m2.2.2.2.2.2.1 e12 gp, if_neg (show ¬ (¬ k = 0 ∧ qB (w0 13) n p' = 59) from fun q => c59 q.2)]
          by_cases en : p' = n
          · rw [if_pos ⟨rfl, en⟩, if_pos en]
            exact ⟨u', Or.inl ⟨rfl, _, _, gp, m2⟩⟩
          · rw [if_neg (show ¬ ((0 : Int32) = 0 ∧ p' = n) from fun q => en q.2), if_neg en]
            exact ⟨u', Or.inl ⟨rfl, gp, _, _, _, _, m2⟩⟩
/-- the class reads a text into ORDER's cells -/
theorem c_read (w : zWd) (O n : Nat) (ht : qTp0 w O n) (day : Int32) : ∃ u', mX4_read 216 12 O day w = (match qCls (w 13) n 8 0 [] with | (_, some _) => some (-1, zup u' 12 0 0) | (p', none) => some (nI p', zup u' 12 0 0)) ∧ (∀ a, a ≠ 216 → (a < O ∨ O + 5 < a) → u' a = w a) ∧ (match qCls (w 13) n 8 0 [] with | (_, some cs) => u' O 0 = day ∧ ∃ b, b ≤ 120 ∧ qCk u' O cs b | (p', none) => p' ≤ n) := by
  have hn := ht.2.1
  obtain ⟨t1, t2, t3, t4, t5⟩ := ht
  unfold mX4_read mX4_read_31 mX2_clear
  generalize hw : zup (zup (zup (zup (zup (zup (zup w 216 0 12) 216 1 (nI O)) 216 2 0) 216 3 0) O 0 day) O 1 0) O 6 0 = w1
  have f : ∀ a, a ≠ 216 → a ≠ O → w1 a = w a := fun a a1 a2 => by rw [← hw, zpE _ _ _ a2, zpE _ _ _ a2, zpE _ _ _ a2, zpE _ _ _ a1, zpE _ _ _ a1, zpE _ _ _ a1, zpE _ _ _ a1]
  have hO216 : (216 : Nat) ≠ O := by omega
  have fO0 : w1 O 0 = day := by rw [← hw, zu2 _ _ (by decide), zu2 _ _ (by decide), zu3]
  have fO1 : w1 O 1 = 0 := by rw [← hw, zu2 _ _ (by decide), zu3]
  have fO6 : w1 O 6 = 0 := by rw [← hw, zu3]
  have f0 : w1 216 0 = 12 := by rw [← hw, zpE _ _ _ hO216, zpE _ _ _ hO216, zpE _ _ _ hO216, zu2 _ _ (by decide), zu2 _ _ (by decide), zu2 _ _ (by decide), zu3]
  have f1 : w1 216 1 = nI O := by rw [← hw, zpE _ _ _ hO216, zpE _ _ _ hO216, zpE _ _ _ hO216, zu2 _ _ (by decide), zu2 _ _ (by decide), zu3]
  have f2 : w1 216 2 = nI 0 := by rw [← hw, zpE _ _ _ hO216, zpE _ _ _ hO216, zpE _ _ _ hO216, zu2 _ _ (by decide), zu3]; rfl
  have f3 : w1 216 3 = 0 := by rw [← hw, zpE _ _ _ hO216, zpE _ _ _ hO216, zpE _ _ _ hO216, zu3]
  have ht1 : qTp0 w1 O n := ⟨by rw [f 12 (by omega) (by omega)]; exact t1, t2, t3, t4, t5⟩
  have e13 : w1 13 = w 13 := f 13 (by omega) (by omega)
  have hq : qRr w1 O w1 0 0 [] 0 := ⟨fun _ _ _ => rfl, rfl, f0, f1, f2, f3, fun _ => ⟨⟨fO1, fO6, fun i hi => absurd hi (Nat.not_lt_zero i)⟩, Nat.le_refl 0⟩⟩
  obtain ⟨u', m⟩ := c_row w1 O n ht1 8 [] 0 0 w1 zFU rfl (by omega) (by decide) hq
  rcases m with m | m
  rotate_left
  · exact absurd m (by decide)
  obtain ⟨m1, m2⟩ := m
  rw [e13] at m1 m2
  refine ⟨u', ?_, ?_, ?_⟩
  · rw [← m1]
    have s3 : (zup (zup (zup w 216 0 12) 216 1 (nI O)) 216 2 0) = (zup (zup (zup w 216 0 12) 216 1 (nI O)) 216 2 0) := rfl
    rw [zbn_e, zbn_e, zbn_e, zgd_t zB0, zbn_e]
    have g1 : (zup (zup (zup (zup w 216 0 12) 216 1 (nI O)) 216 2 0) 216 3 0) 216 1 = nI O := by rw [zu2 _ _ (by decide), zu2 _ _ (by decide), zu3]
    rw [show (12 : Nat) = 12 from rfl, show Int32.ofNat 12 = 12 from rfl, show Int32.ofNat O = nI O from rfl, g1, nI_clamp (by omega), zgd_t (show ¬ nI O = 0 from fun q => by rw [show (0 : Int32) = nI 0 from rfl, nIe (by omega) (by omega)] at q; omega), zgd_t t3, zbn_e, zbn_e, zbn_e, zcl_s, hw]
    rfl
  · have hf : ∀ a, a ≠ 216 → (a < O ∨ O + 5 < a) → u' a = w1 a := by
      match e : qCls (w 13) n 8 0 [] with
      | (p', some cs) => rw [e] at m2; obtain ⟨p, b, _, m3⟩ := m2; exact m3.1
      | (p', none) => rw [e] at m2; obtain ⟨_, cs, b, p, e, m3⟩ := m2; exact m3.1
    intro a a1 a2
    rw [hf a a1 a2]; exact f a a1 (by omega)
  · match e : qCls (w 13) n 8 0 [] with
    | (p', some cs) =>
      rw [e] at m2
      obtain ⟨p, b, hp, m3⟩ := m2
      obtain ⟨k1, k2⟩ := m3.2.2.2.2.2.2 rfl
      exact ⟨by rw [m3.2.1]; exact fO0, b, by omega, k1⟩
    | (p', none) => rw [e] at m2; exact m2.1
