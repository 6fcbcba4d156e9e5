/-! the model reads a text, in its own cell alone -/
def qS1 (w w' : zWd) : Prop := (∀ k, k ≠ 231 → w' k = w k) ∧ ∀ j, j < 10 ∨ 14 < j → w' 231 j = w 231 j
theorem qS1.rf (w : zWd) : qS1 w w := ⟨fun _ _ => rfl, fun _ _ => rfl⟩
theorem qS1.tr {w w1 w2 : zWd} (h : qS1 w w1) (g : qS1 w1 w2) : qS1 w w2 := ⟨fun k hk => (g.1 k hk).trans (h.1 k hk), fun j hj => (g.2 j hj).trans (h.2 j hj)⟩
theorem qS1.up {w w1 : zWd} (h : qS1 w w1) {j : Nat} (hj : 10 ≤ j ∧ j ≤ 14) (v : Int32) : qS1 w (zup w1 231 j v) := ⟨fun k hk => by rw [zpE _ _ _ hk]; exact h.1 k hk, fun i hi => by rw [zu2 _ _ (by omega)]; exact h.2 i hi⟩
/-- ORDER a's text, the spot p, the parentheses not yet closed, asked T, wrong or not -/
def qMs (w0 : zWd) (a : Nat) (T : Int32) (o p : Nat) (e : Int32) (w : zWd) : Prop := qS1 w0 w ∧ w 231 10 = nI a ∧ w 231 11 = nI p ∧ w 231 12 = e ∧ w 231 13 = nI o ∧ w 231 14 = T
section QM
variable {w0 w : zWd} {a o p : Nat} {T e : Int32}
theorem qMs.spot (h : qMs w0 a T o p e w) (q : Nat) : qMs w0 a T o q e (zup w 231 11 (nI q)) := by
  obtain ⟨h0, h1, h2, h3, h4, h5⟩ := h
  exact ⟨h0.up (by omega) _, by rw [zu2 _ _ (by decide)]; exact h1, by rw [zu3], by rw [zu2 _ _ (by decide)]; exact h3, by rw [zu2 _ _ (by decide)]; exact h4, by rw [zu2 _ _ (by decide)]; exact h5⟩
theorem qMs.wrong (h : qMs w0 a T o p e w) (d : Int32) : qMs w0 a T o p d (zup w 231 12 d) := by
  obtain ⟨h0, h1, h2, h3, h4, h5⟩ := h
  exact ⟨h0.up (by omega) _, by rw [zu2 _ _ (by decide)]; exact h1, by rw [zu2 _ _ (by decide)]; exact h2, by rw [zu3], by rw [zu2 _ _ (by decide)]; exact h4, by rw [zu2 _ _ (by decide)]; exact h5⟩
theorem qMs.opd (h : qMs w0 a T o p e w) (q : Nat) : qMs w0 a T q p e (zup w 231 13 (nI q)) := by
  obtain ⟨h0, h1, h2, h3, h4, h5⟩ := h
  exact ⟨h0.up (by omega) _, by rw [zu2 _ _ (by decide)]; exact h1, by rw [zu2 _ _ (by decide)]; exact h2, by rw [zu2 _ _ (by decide)]; exact h3, by rw [zu3], by rw [zu2 _ _ (by decide)]; exact h5⟩
end QM
theorem p_dig (x : Int32) (w : zWd) : mX12_in x 48 57 w = some (if qDig x then 1 else 0, w) := by
  rw [p_in]
  have : ((48 : Int32).toInt ≤ x.toInt ∧ x.toInt ≤ (57 : Int32).toInt) ↔ qDig x := by
    unfold qDig; rw [Int32.le_iff_toInt_le, Int32.le_iff_toInt_le]
  by_cases h : qDig x
  · rw [if_pos h, if_pos (this.mpr h)]
  · rw [if_neg h, if_neg (fun q => h (this.mp q))]
/-- ORDER a's text in w0 -/
def qTx (w0 : zWd) (a n : Nat) : Prop := a ≤ 11 ∧ n ≤ 120 ∧ w0 232 (252 + a) = nI n
def qFx (w0 : zWd) (a : Nat) : Nat → Int32 := fun i => w0 232 (264 + 120 * a + i)
section QH
variable {w0 w : zWd} {a o p n : Nat} {T e : Int32}
theorem h_here (ht : qTx w0 a n) (h : qMs w0 a T o p e w) (hp : p ≤ 200) : mX12_here 231 w = some (qB (qFx w0 a) n p, w) := by
  obtain ⟨ha, hn, en⟩ := ht
  obtain ⟨h0, h1, h2, h3, h4, h5⟩ := h
  have e232 := h0.1 232 (by decide)
  unfold mX12_here mX12_here_45
  rw [show (252 : Int32) = nI 252 from rfl, show (264 : Int32) = nI 264 from rfl]
  unfold qB qFx
  by_cases c : p < n
  · rw [if_pos c]
    simp (disch := (first | omega | (simp (disch := omega) only [zu1, zu2, zu3, nIi, h1, h2, e232, en, l120]; omega))) only [if_true, if_false, zE10, zE00, zOkN, Nat.reduceAdd, Nat.reduceMul, zcl_s, zif01, zbn_e, nIi, nI_clamp, nI_add, nI_1, pk_mul, zgi, zlt, zle, Int32.zero_add, Int32.add_zero, C0, C1, G0, G1, Nat.zero_add, Nat.add_zero, l2, l3, l4, l5, l6, l7, l8, l10, l11, l12, l20, l30, l48, l50, l60, l100, l120, l140, l152, l164, l176, l188, l200, l212, l224, l1604, l1880, l2000, l2008, l2016, l2024, l2032, l2040, l2048, l2210, l2240, l2270, l2300, l2330, l2390, l2450, l2510, l2570, l2590, l2620, l2650, l2660, l2700, T0, T1, Tm1, Tm99, Tm999, p_within, p_in, p_isCell, p_isOwner, p_isDay11, p_isDay12, p_isTap11, p_isTaker11, if_pos, if_neg, p_isTap12, p_isTaker12, p_isGone, zu1, zu2, zu3, nIe, Nat.reduceSub, h1, h2, e232, en, l120]
  · rw [if_neg c]
    simp (disch := (first | omega | (simp (disch := omega) only [zu1, zu2, zu3, nIi, h1, h2, e232, en, l120]; omega))) only [if_true, if_false, zE10, zE00, zOkN, Nat.reduceAdd, Nat.reduceMul, zcl_s, zif01, zbn_e, nIi, nI_clamp, nI_add, nI_1, pk_mul, zgi, zlt, zle, Int32.zero_add, Int32.add_zero, C0, C1, G0, G1, Nat.zero_add, Nat.add_zero, l2, l3, l4, l5, l6, l7, l8, l10, l11, l12, l20, l30, l48, l50, l60, l100, l120, l140, l152, l164, l176, l188, l200, l212, l224, l1604, l1880, l2000, l2008, l2016, l2024, l2032, l2040, l2048, l2210, l2240, l2270, l2300, l2330, l2390, l2450, l2510, l2570, l2590, l2620, l2650, l2660, l2700, T0, T1, Tm1, Tm99, Tm999, p_within, p_in, p_isCell, p_isOwner, p_isDay11, p_isDay12, p_isTap11, p_isTaker11, if_pos, if_neg, p_isTap12, p_isTaker12, p_isGone, zu1, zu2, zu3, nIe, Nat.reduceSub, h1, h2, e232, en, l120]
/-- the number there -/
theorem h_n0 (h : qMs w0 a T o p 1 w) : ∃ w', mX12_number 231 w = some (0, w') ∧ qMs w0 a T o p 1 w' := by
  obtain ⟨h0, h1, h2, h3, h4, h5⟩ := id h
  refine ⟨zup w 231 12 1, ?_, h.wrong 1⟩
  unfold mX12_number mX12_number_22 mX12_number_27 mX12_number_34
  rw [h3, if_neg (by decide), zgd_t zB1, zbn_e]
  show mX12_number_34b 231 _ 0 0 (zup w 231 12 1) = _
  unfold mX12_number_34b mX12_number_97
  rw [if_neg (by decide), zu3, if_neg (by decide)]
theorem zlp_1 {σ α : Type} (F : (σ → Option α) → σ → Option α) (n : Nat) (s : σ) : zlp F (n + 1) s = F (zlp F n) s := rfl
theorem h_num (ht : qTx w0 a n) (h : qMs w0 a T o p 0 w) (hp : p ≤ 150) : ∃ x w', mX12_number 231 w = some (x, w') ∧ (match qNum (qFx w0 a) n p with | (p', some v) => x = v ∧ qMs w0 a T o p' 0 w' | (p', none) => qMs w0 a T o p' 1 w') := by
  have h3 := h.2.2.2.1
  have hz : mX12_number 231 w = if qDig (qB (qFx w0 a) n p) then mX12_number_27 231 0 231 w else mX12_number_22 231 231 w := by
    unfold mX12_number
    rw [h3, if_pos rfl, h_here ht h (by omega), zcl_s, p_dig, zcl_s]
    by_cases d : qDig (qB (qFx w0 a) n p)
    · simp only [if_pos d]; rw [if_neg (by decide)]
    · simp only [if_neg d, if_true]
  rw [hz]
  unfold qNum
  by_cases d : qDig (qB (qFx w0 a) n p)
  rotate_left
  · simp only [if_neg d]
    refine ⟨0, zup w 231 12 1, ?_, h.wrong 1⟩
    unfold mX12_number_22 mX12_number_27 mX12_number_34
    rw [zgd_t zB1, zbn_e]
    show mX12_number_34b 231 _ 0 0 (zup w 231 12 1) = _
    unfold mX12_number_34b mX12_number_97
    rw [if_neg (by decide), zu3, if_neg (by decide)]
  simp only [if_pos d]
  have hw := h.wrong 0
  unfold mX12_number_27 mX12_number_34
  rw [zgd_t zB0, zbn_e]
  generalize zup w 231 12 0 = w1 at hw ⊢
  show ∃ x w', zlp _ (99996 + 1 + 1 + 1 + 1) _ = _ ∧ _
  obtain ⟨m0, hm0, em0⟩ := qDig_nI d
  have e0 : ∀ m, nI (48 + m) - 48 = nI m := fun m => by rw [show (48 : Int32) = nI 48 from rfl, pk_sub (by omega)]; congr 1; omega
  have step : ∀ (k : Int32 × Int32 × zWd → Option (Int32 × zWd)) (v i : Int32) (q : Nat) (u : zWd), qMs w0 a T o q 0 u → q ≤ 180 → mX12_number_68 k 231 v i u = k (v * 10 + (qB (qFx w0 a) n q - 48), i + 1, zup u 231 11 (nI (q + 1))) := by
    intro k v i q u hu hq
    unfold mX12_number_68
    rw [h_here ht hu (by omega), zcl_s, zbn_e, zbn_e, hu.2.2.1, nI_1, Int32.mul_comm 10 v]
    congr 2
    rw [Int32.sub_eq_add_neg, Int32.sub_eq_add_neg, Int32.add_assoc]
  have body : ∀ (k : Int32 × Int32 × zWd → Option (Int32 × zWd)) (v : Int32) (i q : Nat) (u : zWd), qMs w0 a T o q 0 u → q ≤ 180 → i < 3 → mX12_number_34b 231 k v (nI i) u = if qDig (qB (qFx w0 a) n q) then (if i = 0 then mX12_number_68 k 231 v (nI i) u else if v ≤ 0 then some (v, u) else mX12_number_68 k 231 v (nI i) u) else some (v, u) := by
    intro k v i q u hu hq hi
    unfold mX12_number_34b mX12_number_97
    rw [if_neg (by rw [show (3 : Int32) = nI 3 from rfl]; exact nI_ge hi (by decide)), hu.2.2.2.1, if_pos rfl, h_here ht hu (by omega), zcl_s, p_dig, zcl_s]
    by_cases dq : qDig (qB (qFx w0 a) n q)
    · simp only [if_pos dq]
      rw [if_neg (show ¬ (1 : Int32) = 0 by decide)]
      by_cases i0 : i = 0
      · subst i0; rw [if_pos (show nI 0 = 0 from rfl), if_pos rfl]
      · rw [if_neg (fun q => i0 ((nIe (by omega) (by omega)).mp (q.trans (show (0 : Int32) = nI 0 from rfl)))), if_neg i0]
    · simp only [if_neg dq, if_true]
  have last : ∀ (k : Int32 × Int32 × zWd → Option (Int32 × zWd)) (v : Int32) (u : zWd), mX12_number_34b 231 k v (nI 3) u = some (v, u) := by
    intro k v u
    unfold mX12_number_34b mX12_number_97
    rw [if_pos (by decide)]
  rw [zlp_1]
  show ∃ x w', mX12_number_34b 231 _ 0 (nI 0) w1 = some (x, w') ∧ _
  rw [body _ 0 0 p w1 hw (by omega) (by decide), if_pos d, if_pos rfl, step _ _ _ p w1 hw (by omega), zlp_1]
  have hw1 := hw.spot (p + 1)
  generalize zup w1 231 11 (nI (p + 1)) = w2 at hw1 ⊢
  show ∃ x w', mX12_number_34b 231 _ (0 * 10 + (qB (qFx w0 a) n p - 48)) (nI 1) w2 = some (x, w') ∧ _
  rw [show (0 : Int32) * 10 + (qB (qFx w0 a) n p - 48) = nI m0 by rw [em0, e0, Int32.zero_mul, Int32.zero_add]]
  rw [body _ _ 1 (p + 1) w2 hw1 (by omega) (by decide), if_neg (show ¬ (1 : Nat) = 0 by decide)]
  have ev : qB (qFx w0 a) n p - 48 = nI m0 := by rw [em0, e0]
  simp only [ev]
  by_cases c48 : qB (qFx w0 a) n p = 48
  · have m00 : m0 = 0 := by
      rw [em0, show (48 : Int32) = nI 48 from rfl, nIe (by omega) (by omega)] at c48; omega
    subst m00
    simp only [if_pos c48]
    refine ⟨0, w2, ?_, rfl, hw1⟩
    by_cases d1 : qDig (qB (qFx w0 a) n (p + 1))
    · rw [if_pos d1, if_pos (show nI 0 ≤ 0 by decide)]; rfl
    · rw [if_neg d1]; rfl
  have m01 : 0 < m0 := by
    rcases Nat.eq_zero_or_pos m0 with z | z
    · exfalso; rw [z] at em0; exact c48 em0
    · exact z
  simp only [if_neg c48]
  have np : ∀ m, 0 < m → m < 2 ^ 31 → ¬ nI m ≤ 0 := fun m h1 h2 => by rw [show (0 : Int32) = nI 0 from rfl]; exact nI_ge h1 h2
  by_cases d1 : qDig (qB (qFx w0 a) n (p + 1))
  rotate_left
  · simp only [if_neg d1]
    exact ⟨_, w2, rfl, rfl, hw1⟩
  obtain ⟨m1, hm1, em1⟩ := qDig_nI d1
  have ev1 : qB (qFx w0 a) n (p + 1) - 48 = nI m1 := by rw [em1, e0]
  simp only [if_pos d1, if_neg (np m0 m01 (by omega))]
  rw [step _ _ _ (p + 1) w2 hw1 (by omega), zlp_1]
  have hw2 := hw1.spot (p + 1 + 1)
  generalize zup w2 231 11 (nI (p + 1 + 1)) = w3 at hw2 ⊢
  show ∃ x w', mX12_number_34b 231 _ (nI m0 * 10 + (qB (qFx w0 a) n (p + 1) - 48)) (nI 2) w3 = some (x, w') ∧ _
  have ev2 : nI m0 * 10 + nI m1 = nI (m0 * 10 + m1) := by rw [show (10 : Int32) = nI 10 from rfl, pk_mul, nI_add]
  rw [body _ _ 2 (p + 1 + 1) w3 hw2 (by omega) (by decide), if_neg (show ¬ (2 : Nat) = 0 by decide)]
  simp only [ev1, ev2]
  rw [show p + 2 = p + 1 + 1 from rfl]
  by_cases d2 : qDig (qB (qFx w0 a) n (p + 1 + 1))
  rotate_left
  · simp only [if_neg d2]
    exact ⟨_, w3, rfl, rfl, hw2⟩
  simp only [if_pos d2, if_neg (np (m0 * 10 + m1) (by omega) (by omega))]
  rw [step _ _ _ (p + 1 + 1) w3 hw2 (by omega), zlp_1]
  have hw3 := hw2.spot (p + 1 + 1 + 1)
  refine ⟨_, _, last _ _ _, rfl, hw3⟩
end QH
