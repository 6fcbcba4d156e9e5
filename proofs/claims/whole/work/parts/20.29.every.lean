section QL
variable {w0 : zWd} {a o n : Nat} {T : Int32} {tv : Int32 → Bool}
theorem h_every5 (c1 c2 c3 : zFn) {P : Nat → qRes} {h : Nat} (ht : qTx w0 a n) (hG : ∀ p, qGd n h p (P p)) (hP : ∀ p w, p ≤ n → qMs w0 a T o p 0 w → qAns w0 a T o tv (P p) (c3 231 w)) :
    ∀ k acc p w v M, n < p + k → n < p + M → p ≤ n → v = (if qVal tv acc then (1 : Int32) else 0) → qOk acc (h + 1) → qMs w0 a T o p 0 w → qAns w0 a T o tv (qAnd P (qFx w0 a) n k acc p) (zlp (fun k q => mX12_every_5b c1 c2 c3 231 k q.1 q.2) M (v, w)) := by
  intro k
  induction k with
  | zero => intro acc p w v M h1 _ h3; omega
  | succ k ih =>
    intro acc p w v M h1 h2 h3 hv ha hw
    obtain ⟨M, rfl⟩ : ∃ m, M = m + 1 := ⟨M - 1, by omega⟩
    have zv : zB v := by rw [hv]; exact zBif _
    rw [zlp_1]
    show qAns _ _ _ _ _ _ (mX12_every_5b c1 c2 c3 231 _ v w)
    unfold mX12_every_5b mX12_every_53 qAnd
    rw [hw.2.2.2.1, if_pos rfl, h_here ht hw (by have := ht.2.1; omega), zcl_s]
    by_cases e : qB (qFx w0 a) n p = 38
    rotate_left
    · rw [if_neg e, if_neg e]
      exact ⟨v, w, zgd_t zv _, zv, hv, hw⟩
    rw [if_pos e, if_pos e, zbn_e, hw.2.2.1, nI_1]
    have hpn := qB_in e (by decide)
    have hw2 := hw.spot (p + 1)
    generalize zup w 231 11 (nI (p + 1)) = w2 at hw2 ⊢
    obtain ⟨x, w3, g1, g2, g3⟩ := hP (p + 1) w2 (by omega) hw2
    rw [g1, zcl_s]
    have gd := hG (p + 1)
    match e2 : P (p + 1) with
    | (p', some l) =>
      rw [e2] at g3 gd
      simp only at g3 ⊢
      obtain ⟨g4, g5⟩ := g3
      obtain ⟨k1, k2, k3⟩ := gd l rfl
      simp only at k2 k3
      have ok := qOk_a ha k1 (by omega)
      have fin : ∀ y : Int32, y = (if qVal tv (acc ++ l ++ [9000]) then (1 : Int32) else 0) → qAns w0 a T o tv (qAnd P (qFx w0 a) n k (acc ++ l ++ [9000]) p') (zlp (fun k q => mX12_every_5b c1 c2 c3 231 k q.1 q.2) M (y, w3)) := fun y hy => ih _ p' w3 y M (by omega) (by omega) k3 hy ok.1 g5
      rw [ok.2 tv] at fin
      rw [g4, hv]
      unfold mX12_every_48 mX12_every_49
      cases b1 : qVal tv acc <;> cases b2 : qVal tv l <;> rw [b1, b2] at fin <;> simp only [Bool.false_eq_true, if_false, if_true] at fin ⊢
      all_goals first | (rw [if_neg (show ¬ (1 : Int32) = 0 by decide)]; first | exact fin _ rfl | (rw [if_neg (show ¬ (1 : Int32) = 0 by decide)]; exact fin _ rfl)) | exact fin _ rfl
    | (p', none) =>
      rw [e2] at g3
      simp only at g3 ⊢
      obtain ⟨M, rfl⟩ : ∃ m, M = m + 1 := ⟨M - 1, by omega⟩
      have out : ∀ y : Int32, zB y → qAns w0 a T o tv (p', none) (zlp (fun k q => mX12_every_5b c1 c2 c3 231 k q.1 q.2) (M + 1) (y, w3)) := fun y hy => by
        rw [zlp_1]
        show qAns _ _ _ _ _ _ (mX12_every_5b c1 c2 c3 231 _ y w3)
        unfold mX12_every_5b mX12_every_53
        rw [g3.2.2.2.1, if_neg (by decide)]
        exact ⟨y, w3, zgd_t hy _, hy, g3⟩
      unfold mX12_every_48 mX12_every_49
      by_cases y1 : v = 0
      · rw [if_pos y1]; exact out _ zB0
      · rw [if_neg y1]
        by_cases y2 : x = 0
        · rw [if_pos y2]; exact out _ zB0
        · rw [if_neg y2]; exact out _ zB1
theorem h_every (c1 c2 c3 : zFn) {P : Nat → qRes} {h p : Nat} {w : zWd} (ht : qTx w0 a n) (hG : ∀ p, qGd n h p (P p)) (hP : ∀ p w, p ≤ n → qMs w0 a T o p 0 w → qAns w0 a T o tv (P p) (c3 231 w)) (hp : p ≤ n) (hw : qMs w0 a T o p 0 w) : qAns w0 a T o tv (qTerm P (qFx w0 a) n p) (mX12_everyb c1 c2 c3 231 w) := by
  obtain ⟨x, w3, g1, g2, g3⟩ := hP p w hp hw
  unfold mX12_everyb mX12_every_5 qTerm
  rw [g1, zcl_s]
  have gd := hG p
  match e2 : P p with
  | (p', some l) =>
    rw [e2] at g3 gd
    simp only at g3 ⊢
    obtain ⟨k1, k2, k3⟩ := gd l rfl
    have := ht.2.1
    exact h_every5 c1 c2 c3 ht hG hP 130 l p' w3 x zFU (by omega) (by unfold zFU; omega) k3 g3.1 (k1.up (by omega)) g3.2
  | (p', none) =>
    rw [e2] at g3
    simp only at g3 ⊢
    show qAns _ _ _ _ _ _ (zlp _ (99999 + 1) _)
    rw [zlp_1]
    show qAns _ _ _ _ _ _ (mX12_every_5b c1 c2 c3 231 _ x w3)
    unfold mX12_every_5b mX12_every_53
    rw [g3.2.2.2.1, if_neg (by decide)]
    exact ⟨x, w3, zgd_t g2 _, g2, g3⟩
theorem h_some5 (c1 c2 c3 : zFn) {P : Nat → qRes} {h : Nat} (ht : qTx w0 a n) (hG : ∀ p, qGd n h p (P p)) (hP : ∀ p w, p ≤ n → qMs w0 a T o p 0 w → qAns w0 a T o tv (qTerm P (qFx w0 a) n p) (c2 231 w)) :
    ∀ k acc p w v M, n < p + k → n < p + M → p ≤ n → v = (if qVal tv acc then (1 : Int32) else 0) → qOk acc (h + 2) → qMs w0 a T o p 0 w → qAns w0 a T o tv (qOrs P (qFx w0 a) n k acc p) (zlp (fun k q => mX12_some_5b c1 c2 c3 231 k q.1 q.2) M (v, w)) := by
  intro k
  induction k with
  | zero => intro acc p w v M h1 _ h3; omega
  | succ k ih =>
    intro acc p w v M h1 h2 h3 hv ha hw
    obtain ⟨M, rfl⟩ : ∃ m, M = m + 1 := ⟨M - 1, by omega⟩
    have zv : zB v := by rw [hv]; exact zBif _
    rw [zlp_1]
    show qAns _ _ _ _ _ _ (mX12_some_5b c1 c2 c3 231 _ v w)
    unfold mX12_some_5b mX12_some_53 qOrs
    rw [hw.2.2.2.1, if_pos rfl, h_here ht hw (by have := ht.2.1; omega), zcl_s]
    by_cases e : qB (qFx w0 a) n p = 124
    rotate_left
    · rw [if_neg e, if_neg e]
      exact ⟨v, w, zgd_t zv _, zv, hv, hw⟩
    rw [if_pos e, if_pos e, zbn_e, hw.2.2.1, nI_1]
    have hpn := qB_in e (by decide)
    have hw2 := hw.spot (p + 1)
    generalize zup w 231 11 (nI (p + 1)) = w2 at hw2 ⊢
    obtain ⟨x, w3, g1, g2, g3⟩ := hP (p + 1) w2 (by omega) hw2
    rw [g1, zcl_s]
    have gd := qGd_term (f := qFx w0 a) hG (p + 1)
    match e2 : qTerm P (qFx w0 a) n (p + 1) with
    | (p', some l) =>
      rw [e2] at g3 gd
      simp only at g3 ⊢
      obtain ⟨g4, g5⟩ := g3
      obtain ⟨k1, k2, k3⟩ := gd l rfl
      simp only at k2 k3
      have ok := qOk_o ha k1 (by omega)
      have fin : ∀ y : Int32, y = (if qVal tv (acc ++ l ++ [10000]) then (1 : Int32) else 0) → qAns w0 a T o tv (qOrs P (qFx w0 a) n k (acc ++ l ++ [10000]) p') (zlp (fun k q => mX12_some_5b c1 c2 c3 231 k q.1 q.2) M (y, w3)) := fun y hy => ih _ p' w3 y M (by omega) (by omega) k3 hy ok.1 g5
      rw [ok.2 tv] at fin
      rw [g4, hv]
      unfold mX12_some_44 mX12_some_49
      cases b1 : qVal tv acc <;> cases b2 : qVal tv l <;> rw [b1, b2] at fin <;> simp only [Bool.false_eq_true, if_false, if_true] at fin ⊢
      all_goals first | (rw [if_neg (show ¬ (1 : Int32) = 0 by decide)]; first | exact fin _ rfl | (rw [if_neg (show ¬ (1 : Int32) = 0 by decide)]; exact fin _ rfl)) | exact fin _ rfl
    | (p', none) =>
      rw [e2] at g3
      simp only at g3 ⊢
      obtain ⟨M, rfl⟩ : ∃ m, M = m + 1 := ⟨M - 1, by omega⟩
      have out : ∀ y : Int32, zB y → qAns w0 a T o tv (p', none) (zlp (fun k q => mX12_some_5b c1 c2 c3 231 k q.1 q.2) (M + 1) (y, w3)) := fun y hy => by
        rw [zlp_1]
        show qAns _ _ _ _ _ _ (mX12_some_5b c1 c2 c3 231 _ y w3)
        unfold mX12_some_5b mX12_some_53
        rw [g3.2.2.2.1, if_neg (by decide)]
        exact ⟨y, w3, zgd_t hy _, hy, g3⟩
      unfold mX12_some_44 mX12_some_49
      by_cases y1 : v = 0
      · rw [if_pos y1]
        by_cases y2 : x = 0
        · rw [if_pos y2]; exact out _ zB0
        · rw [if_neg y2]; exact out _ zB1
      · rw [if_neg y1]; exact out _ zB1
theorem h_some (c1 c2 c3 : zFn) {P : Nat → qRes} {h p : Nat} {w : zWd} (ht : qTx w0 a n) (hG : ∀ p, qGd n h p (P p)) (hP : ∀ p w, p ≤ n → qMs w0 a T o p 0 w → qAns w0 a T o tv (qTerm P (qFx w0 a) n p) (c2 231 w)) (hp : p ≤ n) (hw : qMs w0 a T o p 0 w) : qAns w0 a T o tv (qSome P (qFx w0 a) n p) (mX12_someb c1 c2 c3 231 w) := by
  obtain ⟨x, w3, g1, g2, g3⟩ := hP p w hp hw
  unfold mX12_someb mX12_some_5 qSome
  rw [g1, zcl_s]
  have gd := qGd_term (f := qFx w0 a) hG p
  match e2 : qTerm P (qFx w0 a) n p with
  | (p', some l) =>
    rw [e2] at g3 gd
    simp only at g3 ⊢
    obtain ⟨k1, k2, k3⟩ := gd l rfl
    have := ht.2.1
    exact h_some5 c1 c2 c3 ht hG hP 130 l p' w3 x zFU (by omega) (by unfold zFU; omega) k3 g3.1 (k1.up (by omega)) g3.2
  | (p', none) =>
    rw [e2] at g3
    simp only at g3 ⊢
    show qAns _ _ _ _ _ _ (zlp _ (99999 + 1) _)
    rw [zlp_1]
    show qAns _ _ _ _ _ _ (mX12_some_5b c1 c2 c3 231 _ x w3)
    unfold mX12_some_5b mX12_some_53
    rw [g3.2.2.2.1, if_neg (by decide)]
    exact ⟨x, w3, zgd_t g2 _, g2, g3⟩
theorem h_must (w : zWd) (p : Nat) (ht : qTx w0 a n) (hp : p ≤ 150) (x e : Int32) (he : zB e) (hw : qMs w0 a T o p e w) : ∃ w', mX12_must 231 x w = some ((), w') ∧ (if e = 0 ∧ qB (qFx w0 a) n p = x then qMs w0 a T o (p + 1) 0 w' else qMs w0 a T o p 1 w') := by
  have bad : ∃ w', mX12_must_16 231 231 w = some ((), w') ∧ qMs w0 a T o p 1 w' := by
    have h1 := hw.wrong 1
    unfold mX12_must_16 mX12_must_21 mX12_must_41
    rw [zgd_t zB1, zbn_e]
    generalize zup w 231 12 1 = w1 at h1 ⊢
    rw [h1.2.2.2.1, if_neg (by decide), zbn_e, h1.2.2.1, Int32.add_zero]
    exact ⟨_, rfl, h1.spot p⟩
  unfold mX12_must
  by_cases e0 : e = 0
  · subst e0
    rw [hw.2.2.2.1, if_pos rfl, h_here ht hw (by omega), zcl_s]
    by_cases y : qB (qFx w0 a) n p = x
    · have yy : (0 : Int32) = 0 ∧ qB (qFx w0 a) n p = x := ⟨rfl, y⟩
      rw [if_pos y]
      have h1 := hw.wrong 0
      unfold mX12_must_21 mX12_must_41
      rw [zgd_t zB0, zbn_e]
      generalize zup w 231 12 0 = w1 at h1 ⊢
      rw [h1.2.2.2.1, if_pos rfl, zbn_e, h1.2.2.1, nI_1]
      exact ⟨_, rfl, by rw [if_pos yy]; exact h1.spot (p + 1)⟩
    · have yy : ¬ ((0 : Int32) = 0 ∧ qB (qFx w0 a) n p = x) := fun q => y q.2
      rw [if_neg y]
      obtain ⟨w', b1, b2⟩ := bad
      exact ⟨w', b1, by rw [if_neg yy]; exact b2⟩
  · have yy : ¬ (e = 0 ∧ qB (qFx w0 a) n p = x) := fun q => e0 q.1
    rw [hw.2.2.2.1, if_neg e0]
    obtain ⟨w', b1, b2⟩ := bad
    exact ⟨w', b1, by rw [if_neg yy]; exact b2⟩
end QL
section QR
variable {w0 : zWd} {a n : Nat} {T : Int32} {kd tp ga he si : Int32}
/-- behind a parenthesis' inside, or a not's -/
theorem h_123 (c1 c2 c3 : zFn) {o p : Nat} {e x : Int32} {w : zWd} (hx : zB x) (hw : qMs w0 a T (o + 1) p e w) : ∃ w', mX12_factor_123 c1 c2 c3 231 x w = some (x, w') ∧ qMs w0 a T o p e w' := by
  unfold mX12_factor_123
  rw [zbn_e, zgd_t hx, hw.2.2.2.2.1, show nI (o + 1) - 1 = nI o by rw [show (1 : Int32) = nI 1 from rfl, pk_sub (by omega)]; rfl]
  exact ⟨_, rfl, hw.opd o⟩
theorem h_factor (ht : qTx w0 a n) (hT : qTold w0 T kd tp ga he si) : ∀ d o N p w, o + d = 7 → o ≤ 5 → 3 * d ≤ N → p ≤ n → qMs w0 a T o p 0 w → qAns w0 a T o (qTv kd tp ga he si) (qPart (qFx w0 a) n d o p) (mGS N 2 231 w) := by
  intro d
  induction d with
  | zero => intro o N p w h1 h2; omega
  | succ d ih =>
    intro o N p w h1 h2 h3 hp hw
    match N, h3 with
    | N + 3, h3 =>
    have hn := ht.2.1
    show qAns _ _ _ _ _ _ (mX12_factorb (mGS (N + 2) 0) (mGS (N + 2) 1) (mGS (N + 2) 2) 231 w)
    have h26 : ∀ x : Int32, ¬ 5 ≤ o → ∃ w5, mX12_factor_26 (mGS (N + 2) 0) (mGS (N + 2) 1) (mGS (N + 2) 2) 231 x w = (if x = 33 then (zcl (mGS (N + 2) 2 231 w5) fun r6 w7 => if r6 = 0 then (mX12_factor_110 (mGS (N + 2) 0) (mGS (N + 2) 1) (mGS (N + 2) 2) 231 x 1 w7) else (mX12_factor_110 (mGS (N + 2) 0) (mGS (N + 2) 1) (mGS (N + 2) 2) 231 x 0 w7)) else (zcl (mGS (N + 2) 0 231 w5) fun r11 w12 => mX12_factor_110 (mGS (N + 2) 0) (mGS (N + 2) 1) (mGS (N + 2) 2) 231 x r11 w12)) ∧ qMs w0 a T (o + 1) (p + 1) 0 w5 := by
      intro x ho
      have k1 := hw.wrong 0
      unfold mX12_factor_26 mX12_factor_40 mX12_factor_70
      rw [hw.2.2.2.2.1, if_neg (fun q => ho (by have := (nIe (show o < 2 ^ 31 by omega) (show 5 < 2 ^ 31 by decide)).mp q; omega)), zgd_t zB0, zbn_e]
      generalize zup w 231 12 0 = w1 at k1 ⊢
      rw [zbn_e, k1.2.2.2.2.1, nI_1]
      have k2 := k1.opd (o + 1)
      generalize zup w1 231 13 (nI (o + 1)) = w2 at k2 ⊢
      rw [k2.2.2.2.1, if_pos rfl, zbn_e, k2.2.2.1, nI_1]
      have k3 := k2.spot (p + 1)
      generalize zup w2 231 11 (nI (p + 1)) = w3 at k3 ⊢
      rw [k3.2.2.2.1, if_pos rfl]
      exact ⟨w3, rfl, k3⟩
    have h26f : ∀ x : Int32, (x = 33 ∨ x = 40) → 5 ≤ o → qAns w0 a T o (qTv kd tp ga he si) (p, none) (mX12_factor_26 (mGS (N + 2) 0) (mGS (N + 2) 1) (mGS (N + 2) 2) 231 x w) := by
      intro x hx ho
      have k1 := hw.wrong 1
      unfold mX12_factor_26 mX12_factor_40 mX12_factor_70
      rw [hw.2.2.2.2.1, if_pos (show nI o = 5 by rw [show o = 5 by omega]; rfl), zgd_t zB1, zbn_e]
      generalize zup w 231 12 1 = w1 at k1 ⊢
      rw [zbn_e, k1.2.2.2.2.1, nI_1]
      have k2 := k1.opd (o + 1)
      generalize zup w1 231 13 (nI (o + 1)) = w2 at k2 ⊢
      rw [k2.2.2.2.1, if_neg (by decide), zbn_e, k2.2.2.1, Int32.add_zero]
      have k3 := k2.spot p
      generalize zup w2 231 11 (nI p) = w3 at k3 ⊢
      rw [k3.2.2.2.1, if_neg (by decide)]
      unfold mX12_factor_110
      rcases hx with rfl | rfl
      · rw [if_neg (by decide)]
        obtain ⟨w', g1, g2⟩ := h_123 (mGS (N + 2) 0) (mGS (N + 2) 1) (mGS (N + 2) 2) zB0 k3
        exact ⟨0, w', g1, zB0, g2⟩
      · rw [if_pos rfl]
        obtain ⟨w4, m1, m2⟩ := h_must w3 p ht (by omega) 41 1 zB1 k3
        rw [if_neg (fun q => absurd q.1 (by decide))] at m2
        rw [m1, zcl_s]
        obtain ⟨w', g1, g2⟩ := h_123 (mGS (N + 2) 0) (mGS (N + 2) 1) (mGS (N + 2) 2) zB0 m2
        exact ⟨0, w', g1, zB0, g2⟩
    by_cases c33 : qB (qFx w0 a) n p = 33
    · have hpn := qB_in c33 (by decide)
      unfold qPart
      rw [if_pos c33]
      unfold mX12_factorb
      rw [hw.2.2.2.1, if_pos rfl, h_here ht hw (by omega), zcl_s, c33, if_pos rfl]
      by_cases ho : 5 ≤ o
      · rw [if_pos ho]; exact h26f 33 (Or.inl rfl) ho
      rw [if_neg ho]
      obtain ⟨w5, g1, g2⟩ := h26 33 ho
      rw [g1, if_pos rfl]
      obtain ⟨x, w6, f1, f2, f3⟩ := ih (o + 1) (N + 2) (p + 1) w5 (by omega) (by omega) (by omega) (by omega) g2
      rw [f1, zcl_s]
      unfold mX12_factor_110
      rw [if_neg (show ¬ (33 : Int32) = 40 by decide), if_neg (show ¬ (33 : Int32) = 40 by decide)]
      have gd := qGd_part (f := qFx w0 a) (n := n) d (o + 1) (p + 1)
      match e2 : qPart (qFx w0 a) n d (o + 1) (p + 1) with
      | (p', some l) =>
        rw [e2] at f3 gd
        simp only at f3 ⊢
        obtain ⟨f4, f5⟩ := f3
        obtain ⟨k1, k2, k3⟩ := gd l rfl
        rw [f4]
        cases b : qVal (qTv kd tp ga he si) l
        · simp only [Bool.false_eq_true, if_false, if_true]
          obtain ⟨w', j1, j2⟩ := h_123 (mGS (N + 2) 0) (mGS (N + 2) 1) (mGS (N + 2) 2) zB1 f5
          refine ⟨1, w', j1, zB1, ?_, j2⟩
          rw [(qOk_n k1 (by omega)).2, b]; rfl
        · simp only [if_true]
          rw [if_neg (show ¬ (1 : Int32) = 0 by decide)]
          obtain ⟨w', j1, j2⟩ := h_123 (mGS (N + 2) 0) (mGS (N + 2) 1) (mGS (N + 2) 2) zB0 f5
          refine ⟨0, w', j1, zB0, ?_, j2⟩
          rw [(qOk_n k1 (by omega)).2, b]; rfl
      | (p', none) =>
        rw [e2] at f3
        simp only at f3 ⊢
        by_cases x0 : x = 0
        · rw [if_pos x0]
          obtain ⟨w', j1, j2⟩ := h_123 (mGS (N + 2) 0) (mGS (N + 2) 1) (mGS (N + 2) 2) zB1 f3
          exact ⟨1, w', j1, zB1, j2⟩
        · rw [if_neg x0]
          obtain ⟨w', j1, j2⟩ := h_123 (mGS (N + 2) 0) (mGS (N + 2) 1) (mGS (N + 2) 2) zB0 f3
          exact ⟨0, w', j1, zB0, j2⟩
    by_cases c40 : qB (qFx w0 a) n p = 40
    · have hpn := qB_in c40 (by decide)
      unfold qPart
      rw [if_neg c33, if_pos c40]
      unfold mX12_factorb
      rw [hw.2.2.2.1, if_pos rfl, h_here ht hw (by omega), zcl_s, c40, if_neg (show ¬ (40 : Int32) = 33 by decide), if_pos rfl]
      by_cases ho : 5 ≤ o
      · rw [if_pos ho]; exact h26f 40 (Or.inr rfl) ho
      rw [if_neg ho]
      obtain ⟨w5, g1, g2⟩ := h26 40 ho
      rw [g1, if_neg (show ¬ (40 : Int32) = 33 by decide)]
      have hG := fun q => qGd_part (f := qFx w0 a) (n := n) d (o + 1) q
      have hS : qAns w0 a T (o + 1) (qTv kd tp ga he si) (qSome (qPart (qFx w0 a) n d (o + 1)) (qFx w0 a) n (p + 1)) (mGS (N + 2) 0 231 w5) :=
        h_some (mGS (N + 1) 0) (mGS (N + 1) 1) (mGS (N + 1) 2) ht hG (fun q u hq hu => h_every (mGS N 0) (mGS N 1) (mGS N 2) ht hG (fun q2 u2 hq2 hu2 => ih (o + 1) N q2 u2 (by omega) (by omega) (by omega) hq2 hu2) hq hu) (by omega) g2
      obtain ⟨x, w6, f1, f2, f3⟩ := hS
      rw [f1, zcl_s]
      unfold mX12_factor_110
      rw [if_pos rfl]
      have gd := qGd_some (f := qFx w0 a) hG (p + 1)
      match e2 : qSome (qPart (qFx w0 a) n d (o + 1)) (qFx w0 a) n (p + 1) with
      | (p', some l) =>
        rw [e2] at f3 gd
        simp only at f3 ⊢
        obtain ⟨f4, f5⟩ := f3
        obtain ⟨k1, k2, k3⟩ := gd l rfl
        simp only at k3
        obtain ⟨w7, m1, m2⟩ := h_must w6 p' ht (by omega) 41 0 zB0 f5
        rw [m1, zcl_s]
        by_cases c41 : qB (qFx w0 a) n p' = 41
        · rw [if_pos ⟨rfl, c41⟩] at m2
          rw [if_pos c41]
          obtain ⟨w', j1, j2⟩ := h_123 (mGS (N + 2) 0) (mGS (N + 2) 1) (mGS (N + 2) 2) f2 m2
          exact ⟨x, w', j1, f2, f4, j2⟩
        · rw [if_neg (fun q => c41 q.2)] at m2
          rw [if_neg c41]
          obtain ⟨w', j1, j2⟩ := h_123 (mGS (N + 2) 0) (mGS (N + 2) 1) (mGS (N + 2) 2) f2 m2
          exact ⟨x, w', j1, f2, j2⟩
      | (p', none) =>
        rw [e2] at f3
        simp only at f3 ⊢
        have hp2 : p' ≤ 150 ∨ True := Or.inr trivial
        obtain ⟨w7, m1, m2⟩ : ∃ w', mX12_must 231 41 w6 = some ((), w') ∧ qMs w0 a T (o + 1) p' 1 w' := by
          have h1 := f3.wrong 1
          unfold mX12_must mX12_must_16 mX12_must_21 mX12_must_41
          rw [f3.2.2.2.1, if_neg (show ¬ (1 : Int32) = 0 by decide), zgd_t zB1, zbn_e]
          generalize zup w6 231 12 1 = w1 at h1 ⊢
          rw [h1.2.2.2.1, if_neg (show ¬ (1 : Int32) = 0 by decide), zbn_e, h1.2.2.1, Int32.add_zero]
          exact ⟨_, rfl, h1.spot p'⟩
        rw [m1, zcl_s]
        obtain ⟨w', j1, j2⟩ := h_123 (mGS (N + 2) 0) (mGS (N + 2) 1) (mGS (N + 2) 2) f2 m2
        exact ⟨x, w', j1, f2, j2⟩
    · have e : qPart (qFx w0 a) n (d + 1) o p = qTest (qFx w0 a) n p := by
        conv => lhs; unfold qPart
        rw [if_neg c33, if_neg c40]
      rw [e]
      exact h_test _ _ _ ht hT hw (by omega) c33 c40
/-- an E, as the model reads it -/
theorem h_E (ht : qTx w0 a n) (hT : qTold w0 T kd tp ga he si) {p : Nat} {w : zWd} (hp : p ≤ n) (hw : qMs w0 a T 0 p 0 w) : qAns w0 a T 0 (qTv kd tp ga he si) (qE (qFx w0 a) n p) (mX12_some 231 w) := by
  have hG := fun q => qGd_part (f := qFx w0 a) (n := n) 7 0 q
  exact h_some (mGS 39 0) (mGS 39 1) (mGS 39 2) ht hG (fun q u hq hu => h_every (mGS 38 0) (mGS 38 1) (mGS 38 2) ht hG (fun q2 u2 hq2 hu2 => h_factor ht hT 7 0 38 q2 u2 (by omega) (by omega) (by omega) hq2 hu2) hq hu) hp hw
end QR
