/-! a word, on both sides -/
theorem L0 : qL 0 = [114, 97, 110, 107] ∧ qL 1 = [100, 101, 101, 112] ∧ qL 2 = [97, 112, 97, 114, 116] ∧ qL 3 = [108, 97, 112, 115, 101] ∧ qL 4 = [108, 101, 97, 115, 116] ∧ qL 5 = [115, 104, 97, 114, 101] := by decide +kernel
theorem L6 : qL 6 = qL 0 ++ [32] ∧ qL 7 = qL 1 ++ [32] ∧ qL 8 = qL 2 ++ [32] ∧ qL 9 = qL 5 ++ [32] ∧ 108 :: qL 10 = qL 3 ++ [32] ∧ 108 :: qL 11 = qL 4 ++ [32] := by decide +kernel
theorem qMax_nI {m t : Nat} (hm : m < 2 ^ 31) (ht : t < 2 ^ 31) : (if nI m < nI t then nI t else nI m) = nI (max m t) := by
  by_cases c : m < t
  · rw [if_pos (by rw [zlt, nIi hm, nIi ht]; omega), Nat.max_eq_right (by omega)]
  · rw [if_neg (by rw [zlt, nIi hm, nIi ht]; omega), Nat.max_eq_left (by omega)]
section WE
variable {w0 u w : zWd} {O n p s a o : Nat} {T : Int32}
theorem c_letters {i : Nat} (hi : i < 6) (u : zWd) : mX4_lettersOf (nI i) u = some (253 + i, u) := by
  have : i = 0 ∨ i = 1 ∨ i = 2 ∨ i = 3 ∨ i = 4 ∨ i = 5 := by omega
  rcases this with rfl | rfl | rfl | rfl | rfl | rfl <;> rfl
theorem c_wturn (ht : qTp0 w0 O n) (h : qRw w0 O u p 0 s) (hp : p ≤ 130) (k : Int32 × Int32 × zWd → Option (Int32 × zWd)) {m i : Nat} (hm : m ≤ 6) (hi : i < 6) : mX4_readWord_4b 216 k (nI m) (nI i) u = if qCm (w0 13) n p (qL i) = (qL i).length then some (nI i, zup u 216 2 (nI (p + (qL i).length))) else k (nI (max m (qCm (w0 13) n p (qL i))), nI (i + 1), u) := by
  have h6 := (t_len0 ⟨i, by omega⟩).2.2
  simp only at h6
  have hle := qCm_le (w0 13) n (qL i) p
  unfold mX4_readWord_4b
  have hts : zTS (253 + i) := by
    have : i = 0 ∨ i = 1 ∨ i = 2 ∨ i = 3 ∨ i = 4 ∨ i = 5 := by omega
    rcases this with rfl | rfl | rfl | rfl | rfl | rfl <;> decide
  rw [if_neg (show ¬ (6 : Int32) ≤ nI i from nI_ge (b := 6) hi (by decide)), c_letters hi, zcl_s, zgd_t hts, c_same ht h hp (by omega), zcl_s, t_len (by omega), zcl_s]
  by_cases e : qCm (w0 13) n p (qL i) = (qL i).length
  · rw [if_pos e, if_pos (by rw [e]), zbn_e, h.2.2.2.2.1, nI_add, e]
  · rw [if_neg e, if_neg (show ¬ nI (qCm (w0 13) n p (qL i)) = nI (qL i).length from fun q => e (by rw [nIe (by omega) (by omega)] at q; exact q)), zbn_e, ← nI_succ, qMax_nI (by omega) (by omega)]
/-- the class's way with a word -/
def qCw (f : Nat → Int32) (n p : Nat) (u : zWd) : Option (Int32 × zWd) :=
  if qCm f n p (qL 0) = 4 then some (0, zup u 216 2 (nI (p + 4))) else if qCm f n p (qL 1) = 4 then some (1, zup u 216 2 (nI (p + 4))) else if qCm f n p (qL 2) = 5 then some (2, zup u 216 2 (nI (p + 5))) else if qCm f n p (qL 3) = 5 then some (3, zup u 216 2 (nI (p + 5))) else if qCm f n p (qL 4) = 5 then some (4, zup u 216 2 (nI (p + 5))) else if qCm f n p (qL 5) = 5 then some (5, zup u 216 2 (nI (p + 5)))
  else some (-1, zup (zup u 216 2 (nI (p + max (max (max (max (max (max 0 (qCm f n p (qL 0))) (qCm f n p (qL 1))) (qCm f n p (qL 2))) (qCm f n p (qL 3))) (qCm f n p (qL 4))) (qCm f n p (qL 5))))) 216 3 1)
theorem c_word (ht : qTp0 w0 O n) (h : qRw w0 O u p 0 s) (hp : p ≤ 130) : mX4_readWord 216 u = qCw (w0 13) n p u := by
  have hb : ∀ i : Fin 6, (qL i.1).length ≤ 6 := by decide +kernel
  have hl : (qL 0).length = 4 ∧ (qL 1).length = 4 ∧ (qL 2).length = 5 ∧ (qL 3).length = 5 ∧ (qL 4).length = 5 ∧ (qL 5).length = 5 := by decide +kernel
  have b0 := qCm_le (w0 13) n (qL 0) p
  have b1 := qCm_le (w0 13) n (qL 1) p
  have b2 := qCm_le (w0 13) n (qL 2) p
  have b3 := qCm_le (w0 13) n (qL 3) p
  have b4 := qCm_le (w0 13) n (qL 4) p
  have b5 := qCm_le (w0 13) n (qL 5) p
  unfold mX4_readWord mX4_readWord_4 qCw
  rw [show zFU = 99993 + 1 + 1 + 1 + 1 + 1 + 1 + 1 from rfl, zlp_1]
  show mX4_readWord_4b 216 _ (nI 0) (nI 0) u = _
  rw [c_wturn ht h hp _ (by omega) (by omega), hl.1, zlp_1]
  show (if _ then _ else mX4_readWord_4b 216 _ (nI (max 0 (qCm (w0 13) n p (qL 0)))) (nI 1) u) = _
  rw [c_wturn ht h hp _ (by omega) (by omega), hl.2.1, zlp_1]
  show (if _ then _ else if _ then _ else mX4_readWord_4b 216 _ (nI (max (max 0 (qCm (w0 13) n p (qL 0))) (qCm (w0 13) n p (qL 1)))) (nI 2) u) = _
  rw [c_wturn ht h hp _ (by omega) (by omega), hl.2.2.1, zlp_1]
  show (if _ then _ else if _ then _ else if _ then _ else mX4_readWord_4b 216 _ (nI (max (max (max 0 (qCm (w0 13) n p (qL 0))) (qCm (w0 13) n p (qL 1))) (qCm (w0 13) n p (qL 2)))) (nI 3) u) = _
  rw [c_wturn ht h hp _ (by omega) (by omega), hl.2.2.2.1, zlp_1]
  show (if _ then _ else if _ then _ else if _ then _ else if _ then _ else mX4_readWord_4b 216 _ (nI (max (max (max (max 0 (qCm (w0 13) n p (qL 0))) (qCm (w0 13) n p (qL 1))) (qCm (w0 13) n p (qL 2))) (qCm (w0 13) n p (qL 3)))) (nI 4) u) = _
  rw [c_wturn ht h hp _ (by omega) (by omega), hl.2.2.2.2.1, zlp_1]
  show (if _ then _ else if _ then _ else if _ then _ else if _ then _ else if _ then _ else mX4_readWord_4b 216 _ (nI (max (max (max (max (max 0 (qCm (w0 13) n p (qL 0))) (qCm (w0 13) n p (qL 1))) (qCm (w0 13) n p (qL 2))) (qCm (w0 13) n p (qL 3))) (qCm (w0 13) n p (qL 4)))) (nI 5) u) = _
  rw [c_wturn ht h hp _ (by omega) (by omega), hl.2.2.2.2.2, zlp_1]
  show (if _ then _ else if _ then _ else if _ then _ else if _ then _ else if _ then _ else if _ then _ else mX4_readWord_4b 216 _ (nI (max (max (max (max (max (max 0 (qCm (w0 13) n p (qL 0))) (qCm (w0 13) n p (qL 1))) (qCm (w0 13) n p (qL 2))) (qCm (w0 13) n p (qL 3))) (qCm (w0 13) n p (qL 4))) (qCm (w0 13) n p (qL 5)))) (nI 6) u) = _
  generalize max (max (max (max (max (max 0 (qCm (w0 13) n p (qL 0))) (qCm (w0 13) n p (qL 1))) (qCm (w0 13) n p (qL 2))) (qCm (w0 13) n p (qL 3))) (qCm (w0 13) n p (qL 4))) (qCm (w0 13) n p (qL 5)) = m
  unfold mX4_readWord_4b
  rw [if_pos (show (6 : Int32) ≤ nI 6 by decide), zbn_e, zgd_t zB1, zbn_e, h.2.2.2.2.1, nI_add]
  rfl
/-- the class's way, by the first letters -/
theorem qCw_eq (f : Nat → Int32) (n p : Nat) (u : zWd) : ∃ i q, i < 6 ∧ (qCw f n p u = if qCm f n p (qL i) = (qL i).length then some (nI i, zup u 216 2 (nI (p + (qL i).length))) else some (-1, zup (zup u 216 2 (nI (p + qCm f n p (qL i)))) 216 3 1)) ∧ qWs f n p = q ∧ (q = qWo f n p i ∨ (q = (p, none) ∧ qCm f n p (qL i) = 0)) := by
  obtain ⟨e0, e1, e2, e3, e4, e5⟩ := L0
  have hl : (qL 0).length = 4 ∧ (qL 1).length = 4 ∧ (qL 2).length = 5 ∧ (qL 3).length = 5 ∧ (qL 4).length = 5 ∧ (qL 5).length = 5 := by decide +kernel
  have z0 : ¬ qB f n p = 114 → qCm f n p (qL 0) = 0 := fun h => by rw [e0]; exact qCm_n h
  have z1 : ¬ qB f n p = 100 → qCm f n p (qL 1) = 0 := fun h => by rw [e1]; exact qCm_n h
  have z2 : ¬ qB f n p = 97 → qCm f n p (qL 2) = 0 := fun h => by rw [e2]; exact qCm_n h
  have z3 : ¬ qB f n p = 108 → qCm f n p (qL 3) = 0 := fun h => by rw [e3]; exact qCm_n h
  have z4 : ¬ qB f n p = 108 → qCm f n p (qL 4) = 0 := fun h => by rw [e4]; exact qCm_n h
  have z5 : ¬ qB f n p = 115 → qCm f n p (qL 5) = 0 := fun h => by rw [e5]; exact qCm_n h
  have y3 : qB f n p = 108 → qCm f n p (qL 3) = 1 + qCm f n (p + 1) [97, 112, 115, 101] := fun h => by rw [e3]; exact qCm_y h
  have y4 : qB f n p = 108 → qCm f n p (qL 4) = 1 + qCm f n (p + 1) [101, 97, 115, 116] := fun h => by rw [e4]; exact qCm_y h
  have y3n : ¬ qB f n (p + 1) = 97 → qCm f n (p + 1) [97, 112, 115, 101] = 0 := fun h => qCm_n h
  have y4n : ¬ qB f n (p + 1) = 101 → qCm f n (p + 1) [101, 97, 115, 116] = 0 := fun h => qCm_n h
  unfold qCw qWs
  by_cases c97 : qB f n p = 97
  · refine ⟨2, _, by omega, ?_, if_pos c97, Or.inl rfl⟩
    rw [z0 (by rw [c97]; decide), z1 (by rw [c97]; decide), z3 (by rw [c97]; decide), z4 (by rw [c97]; decide), z5 (by rw [c97]; decide), hl.2.2.1]
    simp
    rfl
  rw [if_neg c97]
  by_cases c100 : qB f n p = 100
  · refine ⟨1, _, by omega, ?_, if_pos c100, Or.inl rfl⟩
    rw [z0 (by rw [c100]; decide), z2 c97, z3 (by rw [c100]; decide), z4 (by rw [c100]; decide), z5 (by rw [c100]; decide), hl.2.1]
    simp
    rfl
  rw [if_neg c100]
  by_cases c108 : qB f n p = 108
  · rw [if_pos c108]
    by_cases d97 : qB f n (p + 1) = 97
    · refine ⟨3, _, by omega, ?_, if_pos d97, Or.inl rfl⟩
      rw [z0 (by rw [c108]; decide), z1 c100, z2 c97, z5 (by rw [c108]; decide), hl.2.2.2.1, y4 c108, y4n (by rw [d97]; decide), y3 c108]
      simp
      by_cases k : 1 + qCm f n (p + 1) [97, 112, 115, 101] = 5
      · rw [if_pos k, if_pos k]; rfl
      · rw [if_neg k, if_neg k]
    · refine ⟨4, _, by omega, ?_, if_neg d97, Or.inl rfl⟩
      rw [z0 (by rw [c108]; decide), z1 c100, z2 c97, z5 (by rw [c108]; decide), hl.2.2.2.2.1, y4 c108, y3 c108, y3n d97]
      simp
      by_cases k : 1 + qCm f n (p + 1) [101, 97, 115, 116] = 5
      · rw [if_pos k, if_pos k]; rfl
      · rw [if_neg k, if_neg k]
  rw [if_neg c108]
  by_cases c114 : qB f n p = 114
  · refine ⟨0, _, by omega, ?_, if_pos c114, Or.inl rfl⟩
    rw [z1 c100, z2 c97, z3 c108, z4 c108, z5 (by rw [c114]; decide), hl.1]
    simp
    rfl
  rw [if_neg c114]
  by_cases c115 : qB f n p = 115
  · refine ⟨5, _, by omega, ?_, if_pos c115, Or.inl rfl⟩
    rw [z0 c114, z1 c100, z2 c97, z3 c108, z4 c108, hl.2.2.2.2.2]
    simp
    rfl
  rw [if_neg c115]
  refine ⟨0, _, by omega, ?_, rfl, Or.inr ⟨rfl, z0 c114⟩⟩
  rw [z0 c114, z1 c100, z2 c97, z3 c108, z4 c108, z5 c115, hl.1]
  simp
/-- the class: a word and the blank -/
theorem c_ws {α : Type} (ht : qTp0 w0 O n) (h : qRw w0 O u p 0 s) (hp : p ≤ 120) (K : Int32 → zWd → Option α) : ∃ x u', (zcl (mX4_readWord 216 u) fun r w => zcl (mX4_need 216 32 w) fun _ w' => K r w') = K x u' ∧ (∀ c, c ≠ 216 → u' c = u c) ∧ (match qWs (w0 13) n p with | (p', some i) => x = nI i ∧ i < 6 ∧ qRw w0 O u' p' 0 s | (p', none) => qRw w0 O u' p' 1 s) := by
  have hO := ht.2.2.2.2
  obtain ⟨i, q, hi, g1, g2, g3⟩ := qCw_eq (w0 13) n p u
  have h6 := (t_len0 ⟨i, by omega⟩).2.2
  simp only at h6
  rw [c_word ht h (by omega), g1, g2]
  have hsp := qCm_sp (w0 13) n (qL i) p
  by_cases e : qCm (w0 13) n p (qL i) = (qL i).length
  · have hlp : ¬ (qL i).length = 0 := by
      have : ∀ i : Fin 6, ¬ (qL i.1).length = 0 := by decide +kernel
      exact this ⟨i, hi⟩
    have h1 := h.pl hO (p + (qL i).length)
    rw [if_pos e, zcl_s, c_need0 ht h1 (by omega) (by decide)]
    rw [if_pos e] at hsp
    have hq : q = qWo (w0 13) n p i := by
      rcases g3 with g | ⟨_, g⟩
      · exact g
      · omega
    rw [hq]
    unfold qWo
    by_cases e32 : qB (w0 13) n (p + (qL i).length) = 32
    · rw [if_pos e32] at hsp
      rw [if_pos e32, hsp, if_pos rfl, zcl_s]
      exact ⟨_, _, rfl, fun c hc => by rw [zpE _ _ _ hc, zpE _ _ _ hc], rfl, hi, h1.pl hO _⟩
    · rw [if_neg e32] at hsp
      rw [if_neg e32, hsp, if_neg (by omega), zcl_s]
      exact ⟨_, _, rfl, fun c hc => by rw [zpE _ _ _ hc, zpE _ _ _ hc], h1.fl hO 1⟩
  · have h1 := (h.pl hO (p + qCm (w0 13) n p (qL i))).fl hO 1
    rw [if_neg e, zcl_s, c_need1 h1, zcl_s]
    rw [if_neg e] at hsp
    refine ⟨_, _, rfl, fun c hc => by rw [zpE _ _ _ hc, zpE _ _ _ hc, zpE _ _ _ hc], ?_⟩
    have hle := qCm_le (w0 13) n (qL i) p
    rcases g3 with g | ⟨g, g4⟩
    · rw [g]
      unfold qWo
      rw [hsp, if_neg (by omega)]
      exact h1.fl hO 1
    · rw [g]
      rw [g4, Nat.add_zero] at h1 ⊢
      exact h1.fl hO 1
/-- the model: a word and the blank -/
theorem h_word (ht : qTx w0 a n) (h : qMs w0 a T o p 0 w) (hp : p ≤ 120) : ∃ x w', mX12_word 231 w = some (x, w') ∧ (match qWs (qFx w0 a) n p with | (p', some i) => x = nI i ∧ i < 6 ∧ qMs w0 a T o p' 0 w' | (p', none) => qMs w0 a T o p' 1 w' ∧ ∃ i, x = nI i ∧ i < 6) := by
  obtain ⟨l6, l7, l8, l9, l10, l11⟩ := L6
  have sp : ∀ (j i : Nat), j < 12 → i < 6 → qL j = qL i ++ [32] → ∃ x w', (zcl (mX12_spells 231 (253 + j) w) fun _ w4 => some (nI i, w4)) = some (x, w') ∧ (match qWo (qFx w0 a) n p i with | (p', some i) => x = nI i ∧ i < 6 ∧ qMs w0 a T o p' 0 w' | (p', none) => qMs w0 a T o p' 1 w' ∧ ∃ i, x = nI i ∧ i < 6) := by
    intro j i hj hi e
    obtain ⟨w', g1, g2⟩ := h_spells ht hj (by omega) h
    rw [g1, zcl_s]
    refine ⟨_, _, rfl, ?_⟩
    unfold qWo
    rw [e, List.length_append] at g2
    by_cases k : qCm (qFx w0 a) n p (qL i ++ [32]) = (qL i).length + 1
    · rw [if_pos k]
      rw [if_pos (show _ = (qL i).length + [(32 : Int32)].length from k), k] at g2
      exact ⟨rfl, hi, g2⟩
    · rw [if_neg k]
      rw [if_neg (show ¬ _ = (qL i).length + [(32 : Int32)].length from k)] at g2
      exact ⟨g2, i, rfl, hi⟩
  have sp2 : ∀ (j i : Nat), j < 12 → i < 6 → 108 :: qL j = qL i ++ [32] → qB (qFx w0 a) n p = 108 → ∃ x w', (zcl (mX12_spells 231 (253 + j) (zup w 231 11 (nI (p + 1)))) fun _ w4 => some (nI i, w4)) = some (x, w') ∧ (match qWo (qFx w0 a) n p i with | (p', some i) => x = nI i ∧ i < 6 ∧ qMs w0 a T o p' 0 w' | (p', none) => qMs w0 a T o p' 1 w' ∧ ∃ i, x = nI i ∧ i < 6) := by
    intro j i hj hi e e108
    obtain ⟨w', g1, g2⟩ := h_spells ht hj (by omega) (h.spot (p + 1))
    rw [g1, zcl_s]
    refine ⟨_, _, rfl, ?_⟩
    unfold qWo
    have el : (qL j).length = (qL i).length := by
      have := congrArg List.length e
      simp only [List.length_cons, List.length_append, List.length_nil] at this
      omega
    rw [← e, qCm_y e108]
    rw [el] at g2
    by_cases k : qCm (qFx w0 a) n (p + 1) (qL j) = (qL i).length
    · rw [if_pos (by omega)]
      rw [if_pos k, k] at g2
      exact ⟨rfl, hi, by rw [show p + ((qL i).length + 1) = p + 1 + (qL i).length by omega]; exact g2⟩
    · rw [if_neg (by omega)]
      rw [if_neg k] at g2
      exact ⟨by rw [show p + (1 + qCm (qFx w0 a) n (p + 1) (qL j)) = p + 1 + qCm (qFx w0 a) n (p + 1) (qL j) by omega]; exact g2, i, rfl, hi⟩
  unfold mX12_word qWs
  rw [h_here ht h (by omega), zcl_s]
  by_cases c97 : qB (qFx w0 a) n p = 97
  · rw [if_pos c97, if_pos c97]; exact sp 8 2 (by omega) (by omega) l8
  rw [if_neg c97, if_neg c97]
  by_cases c100 : qB (qFx w0 a) n p = 100
  · rw [if_pos c100, if_pos c100]; exact sp 7 1 (by omega) (by omega) l7
  rw [if_neg c100, if_neg c100]
  by_cases c108 : qB (qFx w0 a) n p = 108
  · rw [if_pos c108, if_pos c108, zbn_e, h.2.2.1, ← nI_succ, h_here ht (h.spot (p + 1)) (by omega), zcl_s]
    by_cases d97 : qB (qFx w0 a) n (p + 1) = 97
    · rw [if_pos d97, if_pos d97]; exact sp2 10 3 (by omega) (by omega) l10 c108
    · rw [if_neg d97, if_neg d97]; exact sp2 11 4 (by omega) (by omega) l11 c108
  rw [if_neg c108, if_neg c108]
  by_cases c114 : qB (qFx w0 a) n p = 114
  · rw [if_pos c114, if_pos c114]; exact sp 6 0 (by omega) (by omega) l6
  rw [if_neg c114, if_neg c114]
  by_cases c115 : qB (qFx w0 a) n p = 115
  · rw [if_pos c115, if_pos c115]; exact sp 9 5 (by omega) (by omega) l9
  rw [if_neg c115, if_neg c115, zgd_t zB1, zbn_e]
  exact ⟨_, _, rfl, h.wrong 1, 0, rfl, by omega⟩
end WE
