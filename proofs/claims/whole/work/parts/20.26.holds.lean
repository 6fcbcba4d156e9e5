/-- what a test says of a taker -/
def qTv (kd tp ga he si : Int32) (x : Int32) : Bool :=
  if x / 1000 = 0 then decide (kd = x - x / 1000 * 1000) else if x / 1000 = 1 then decide (tp = x - x / 1000 * 1000)
  else if x / 1000 = 2 then decide (ga < x - x / 1000 * 1000) else if x / 1000 = 3 then decide (x - x / 1000 * 1000 < ga)
  else if x / 1000 = 4 then decide (si < x - x / 1000 * 1000) else if x / 1000 = 5 then decide (x - x / 1000 * 1000 < si)
  else if x / 1000 = 6 then decide (he < x - x / 1000 * 1000) else decide (x - x / 1000 * 1000 < he)
def qTw (w : zWd) (t : Nat) : Int32 → Bool := qTv (w 83 t) (w 84 t) (w 85 t) (w 86 t) (w 87 t)
theorem zlt2 (a b : Int32) : (a < b) = ¬ (b ≤ a) := by rw [zlt, zle]; exact propext (by omega)
theorem s_isSo (w : zWd) {t : Nat} (ht : t < 8) (x : Int32) : mX2_isSo (x / 1000) (x - x / 1000 * 1000) 82 (nI t) w = some (if qTw w t x then 1 else 0, w) := by
  unfold mX2_isSo qTw qTv
  generalize x - x / 1000 * 1000 = n
  generalize x / 1000 = k
  have g : zin (nI t) 8 := vp_in_nI ht (by decide)
  simp only [Nat.reduceAdd, nI_clamp (show t < 2 ^ 31 by omega), mX2_isSo_59, mX2_isSo_75, mX2_isSo_91, mX2_isSo_107, mX2_isSo_123, mX2_isSo_139, mX2_isSo_155, mX2_isSo_171, zgd_t g, zgd_t zB0, zgd_t zB1, zlt2]
  by_cases c0 : k = 0
  · simp only [if_pos c0]; by_cases e : w 83 t = n <;> simp [e]
  simp only [if_neg c0]
  by_cases c1 : k = 1
  · simp only [if_pos c1]; by_cases e : w 84 t = n <;> simp [e]
  simp only [if_neg c1]
  by_cases c2 : k = 2
  · simp only [if_pos c2]; by_cases e : n ≤ w 85 t <;> simp [e]
  simp only [if_neg c2]
  by_cases c3 : k = 3
  · simp only [if_pos c3]; by_cases e : w 85 t ≤ n <;> simp [e]
  simp only [if_neg c3]
  by_cases c4 : k = 4
  · simp only [if_pos c4]; by_cases e : n ≤ w 87 t <;> simp [e]
  simp only [if_neg c4]
  by_cases c5 : k = 5
  · simp only [if_pos c5]; by_cases e : w 87 t ≤ n <;> simp [e]
  simp only [if_neg c5]
  by_cases c6 : k = 6
  · simp only [if_pos c6]; by_cases e : n ≤ w 86 t <;> simp [e]
  simp only [if_neg c6]
  by_cases e : w 86 t ≤ n <;> simp [e]
/-- a word of bits holds a stack -/
def qRp (v : Int32) (st : List Bool) : Prop := ∀ j, j < st.length → bt v j = st.getD j false
theorem btm2 : ∀ i, i < 32 → bt (-2) i = decide (i ≠ 0) := by decide +kernel
theorem b_u1 (x : Int32) (i : Nat) : bt ((x.toUInt32 >>> ((1 : Int32).toUInt32 &&& Int32.toUInt32 31)).toInt32) i = bt x (1 + i) := b_ushr 1 (by decide) x i
theorem qRp_n {v : Int32} {a : Bool} {st : List Bool} (h : qRp v (a :: st)) (h32 : st.length + 1 ≤ 32) : qRp (v ^^^ 1) ((!a) :: st) := by
  intro j hj
  simp only [List.length_cons] at hj
  rw [b_xor, bt1 j (by omega), h j (by simp only [List.length_cons]; exact hj)]
  match j with
  | 0 => simp
  | j + 1 => simp
theorem qRp_a {v : Int32} {a b : Bool} {st : List Bool} (h : qRp v (a :: b :: st)) (h32 : st.length + 2 ≤ 32) : qRp (((v.toUInt32 >>> ((1 : Int32).toUInt32 &&& Int32.toUInt32 31)).toInt32) &&& (v ||| -2)) ((b && a) :: st) := by
  intro j hj
  simp only [List.length_cons] at hj
  have h1 := h (1 + j) (by simp only [List.length_cons]; omega)
  have h0 := h 0 (by simp only [List.length_cons]; omega)
  rw [b_and, b_or, b_u1, btm2 j (by omega), h1]
  match j with
  | 0 => rw [h0]; simp
  | j + 1 => simp [Nat.add_comm 1]
theorem qRp_o {v : Int32} {a b : Bool} {st : List Bool} (h : qRp v (a :: b :: st)) (h32 : st.length + 2 ≤ 32) : qRp (((v.toUInt32 >>> ((1 : Int32).toUInt32 &&& Int32.toUInt32 31)).toInt32) ||| (v &&& 1)) ((b || a) :: st) := by
  intro j hj
  simp only [List.length_cons] at hj
  have h1 := h (1 + j) (by simp only [List.length_cons]; omega)
  have h0 := h 0 (by simp only [List.length_cons]; omega)
  rw [b_or, b_and, b_u1, bt1 j (by omega), h1]
  match j with
  | 0 => rw [h0]; simp
  | j + 1 => simp [Nat.add_comm 1]
theorem qRp_t {v : Int32} {st : List Bool} (h : qRp v st) (h32 : st.length + 1 ≤ 32) (b : Bool) : qRp ((v <<< ((1 : Int32) &&& 31)) ||| (if b then 1 else 0)) (b :: st) := by
  intro j hj
  simp only [List.length_cons] at hj
  rw [b_or, show (v <<< ((1 : Int32) &&& 31)) = v <<< (nI 1 &&& 31) from rfl, b_shl 1 (by decide) v (by omega)]
  have e : bt (if b then (1 : Int32) else 0) j = (b && decide (j = 0)) := by
    cases b
    · simp only [Bool.false_eq_true, if_false, Bool.false_and]; exact b_0 j
    · simp only [if_true, Bool.true_and]; exact bt1 j (by omega)
  rw [e]
  match j with
  | 0 => simp
  | j + 1 => rw [show j + 1 - 1 = j by omega, h j (by omega)]; simp
theorem s_holds (w : zWd) {o k t b : Nat} {l : List Int32} (hk : k < 8) (ht : t < 8) (eb : w (o + 3) k = nI b) (ee : w (o + 4) k = nI (b + l.length)) (hb : b + l.length ≤ 120) (hl : ∀ i, i < l.length → w (o + 5) (b + i) = l.getD i 0) (h : qOk l 17) : mX2_holds o (nI k) 82 (nI t) w = some (if qVal (qTw w t) l then 1 else 0, w) := by
  have g8 : zin (nI k) 8 := vp_in_nI hk (by decide)
  unfold mX2_holds mX2_holds_11
  rw [zgd_t g8, zbn_e, nI_clamp (by omega), eb]
  have g := (h (qTw w t) (List.replicate 15 false)).2
  have ge := (h (qTw w t) (List.replicate 15 false)).1
  simp only [List.length_replicate] at g
  refine zlp_to (P := fun i q => ∃ v, q = (v, nI (b + i), w) ∧ qRp v (qRn (qTw w t) (l.take i) (List.replicate 15 false))) (n := l.length) (by unfold zFU; omega) ?_ ⟨0, rfl, ?_⟩
  rotate_left
  · rw [List.take_zero, qRn_0]
    intro j hj
    rw [List.length_replicate] at hj
    rw [b_0, List.getD_eq_getElem?_getD, List.getElem?_replicate, if_pos hj]
    rfl
  rintro i hi q ⟨v, rfl, hv⟩ K hK
  simp only [mX2_holds_11b]
  rw [zgd_t g8, nI_clamp (by omega), ee]
  by_cases e : i = l.length
  · subst e
    rw [if_pos (nI_le (Nat.le_refl _) (by omega))]
    rw [List.take_length, ge] at hv
    have h0 := hv 0 (by simp)
    simp only [List.getD_cons_zero] at h0
    unfold mX2_holds_140 mX2_holds_152
    have e1 : (v &&& 1) = if qVal (qTw w t) l then 1 else 0 := by
      rw [← h0]
      refine b_ext (fun i hi => ?_)
      rw [b_and, bt1 i hi]
      by_cases e : i = 0
      · subst e
        cases c : bt v 0 <;> simp <;> decide
      · simp only [e, decide_false, Bool.and_false]
        cases bt v 0
        · exact (b_0 i).symm
        · simp only [if_true]; rw [bt1 i hi]; simp [e]
    rw [e1]
    cases c : qVal (qTw w t) l
    · simp only [Bool.false_eq_true, if_false, if_true]; exact zgd_t zB0 _
    · simp only [if_true]; rw [if_neg (by decide)]; exact zgd_t zB1 _
  · have hi2 : i < l.length := by omega
    rw [if_neg (nI_ge (by omega) (by omega)), if_neg (by rw [show (120 : Int32) = nI 120 from rfl]; exact nI_ge (by omega) (by omega)), zgd_t (show zin (nI (b + i)) 120 from vp_in_nI (by omega) (by decide))]
    simp only [zbn_e, nI_clamp (show b + i < 2 ^ 31 by omega), hl i hi2]
    have ex : l.getD i 0 = l[i] := by rw [List.getD_eq_getElem?_getD, List.getElem?_eq_getElem hi2]; rfl
    have et : l.take (i + 1) = l.take i ++ [l.getD i 0] := by rw [ex, List.take_append_getElem hi2]
    have gi := g i
    have gj := g (i + 1)
    have hK2 : ∀ v', qRp v' (qStp (qTw w t) (l.getD i 0) (qRn (qTw w t) (l.take i) (List.replicate 15 false))) → K (v', nI (b + i) + 1, w) = some (if qVal (qTw w t) l then 1 else 0, w) := by
      intro v' hv'
      refine hK hi2 _ ⟨v', by rw [← nI_succ]; rfl, ?_⟩
      rw [et, qRn_app, qRn_1]; exact hv'
    rw [et, qRn_app, qRn_1] at gj
    generalize qRn (qTw w t) (l.take i) (List.replicate 15 false) = st at hv gi gj hK2
    generalize l.getD i 0 = x at gj hK2
    unfold qStp at gj hK2
    match st, hv, gi, gj, hK2 with
    | [], _, gi, _, _ => simp at gi
    | [a], _, gi, _, _ => simp at gi
    | a :: a2 :: st, hv, gi, gj, hK2 =>
    simp only [List.length_cons] at gi
    by_cases c8 : x / 1000 = 8
    · simp only [if_pos c8] at hK2 ⊢
      exact hK2 _ (qRp_n hv (by simp only [List.length_cons]; omega))
    simp only [if_neg c8] at gj hK2 ⊢
    by_cases c9 : x / 1000 = 9
    · simp only [if_pos c9] at hK2 ⊢
      exact hK2 _ (qRp_a hv (by omega))
    simp only [if_neg c9] at gj hK2 ⊢
    by_cases c10 : x / 1000 = 10
    · simp only [if_pos c10] at hK2 ⊢
      exact hK2 _ (qRp_o hv (by omega))
    simp only [if_neg c10] at gj hK2 ⊢
    simp only [List.length_cons] at gj
    rw [zgd_t (show zin (nI (b + i)) 120 from vp_in_nI (by omega) (by decide)), s_isSo w ht x, zcl_s]
    have hv2 := hK2 _ (qRp_t hv (by simp only [List.length_cons]; omega) (qTw w t x))
    cases c : qTw w t x
    · rw [c] at hv2
      simp only [Bool.false_eq_true, if_false, if_true, mX2_holds_131, mX2_holds_134, zbn_e] at hv2 ⊢
      exact hv2
    · rw [c] at hv2
      simp only [if_true, mX2_holds_131, mX2_holds_134, zbn_e] at hv2 ⊢
      rw [if_neg (by decide)]
      exact hv2
