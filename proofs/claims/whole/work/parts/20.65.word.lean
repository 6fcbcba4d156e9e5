/-! words -/
/-- the letters of string i of the tables -/
def qL (i : Nat) : List Int32 := zTb.getD i []
/-- how many letters stand there -/
def qCm (f : Nat → Int32) (n : Nat) : Nat → List Int32 → Nat
  | _, [] => 0
  | p, c :: l => if qB f n p = c then 1 + qCm f n (p + 1) l else 0
theorem qCm_le (f : Nat → Int32) (n : Nat) : ∀ l p, qCm f n p l ≤ l.length
  | [], p => Nat.le_refl 0
  | c :: l, p => by
    unfold qCm
    have := qCm_le f n l (p + 1)
    by_cases e : qB f n p = c
    · rw [if_pos e, List.length_cons]; omega
    · rw [if_neg e, List.length_cons]; omega
theorem qCm_n {f : Nat → Int32} {n p : Nat} {c : Int32} {l : List Int32} (h : ¬ qB f n p = c) : qCm f n p (c :: l) = 0 := by
  unfold qCm; rw [if_neg h]
theorem qCm_y {f : Nat → Int32} {n p : Nat} {c : Int32} {l : List Int32} (h : qB f n p = c) : qCm f n p (c :: l) = 1 + qCm f n (p + 1) l := by
  conv => lhs; unfold qCm
  rw [if_pos h]
/-- .. and a blank behind -/
theorem qCm_sp (f : Nat → Int32) (n : Nat) : ∀ l p, qCm f n p (l ++ [32]) = if qCm f n p l = l.length then (if qB f n (p + l.length) = 32 then l.length + 1 else l.length) else qCm f n p l
  | [], p => by
    show qCm f n p (32 :: []) = _
    unfold qCm
    simp [qCm]
  | c :: l, p => by
    show qCm f n p (c :: (l ++ [32])) = _
    have ih := qCm_sp f n l (p + 1)
    by_cases e : qB f n p = c
    · rw [qCm_y e, qCm_y e, ih, List.length_cons, show p + (l.length + 1) = p + 1 + l.length by omega]
      by_cases e2 : qCm f n (p + 1) l = l.length
      · rw [if_pos e2, if_pos (show 1 + qCm f n (p + 1) l = l.length + 1 by omega)]
        by_cases e3 : qB f n (p + 1 + l.length) = 32
        · rw [if_pos e3, if_pos e3]; omega
        · rw [if_neg e3, if_neg e3]; omega
      · rw [if_neg e2, if_neg (show ¬ 1 + qCm f n (p + 1) l = l.length + 1 by omega)]
    · rw [qCm_n e, qCm_n e, if_neg (by rw [List.length_cons]; omega)]
theorem t_len0 : ∀ i : Fin 12, (Int32.ofNat (zTl.getD i.1 0)) >>> ((0 : Int32) &&& 31) = nI (qL i.1).length ∧ zTl.getD i.1 0 = (qL i.1).length ∧ (qL i.1).length ≤ 6 := by decide +kernel
theorem t_chr0 : ∀ i : Fin 12, ∀ j : Fin 6, j.1 < (qL i.1).length → ((((qL i.1).getD j.1 0) &&& (255 : Int32)).toUInt32 % 65536).toInt32 = (qL i.1).getD j.1 0 ∧ ¬ (qL i.1).getD j.1 0 = -1 ∧ 0 ≤ (qL i.1).getD j.1 0 ∧ (qL i.1).getD j.1 0 ≤ 127 := by decide +kernel
theorem t_narrow {x : Int32} (h0 : 0 ≤ x) (h1 : x ≤ 127) : narrow .char (.int x) = .int x ∧ narrow .byte (.int x) = .int x := by
  obtain ⟨m, hm, rfl⟩ : ∃ m, m < 128 ∧ x = nI m := by
    obtain ⟨m, e, _⟩ := qNat (x := x) (lo := 0) (hi := 127) ⟨by rw [zle] at h0; exact h0, by rw [zle] at h1; exact h1⟩ (by decide)
    refine ⟨m, ?_, e⟩
    rw [e, zle, nIi (by omega)] at h1
    have : (127 : Int32).toInt = 127 := by decide
    omega
  have : ∀ m : Fin 128, narrow .char (.int (nI m.1)) = .int (nI m.1) ∧ narrow .byte (.int (nI m.1)) = .int (nI m.1) := by decide +kernel
  exact this ⟨m, hm⟩
theorem t_len {i : Nat} (hi : i < 12) (w : zWd) : mJ0_length_8abf5 (253 + i) w = some (nI (qL i).length, w) := by
  unfold mJ0_length_8abf5 mJ0_coder_7d493 mJ0_coder_7d493_14
  rw [if_neg (by decide), zgd_t (t_narrow (by decide) (by decide)).2, zcl_s, show 253 + i + 17 - 270 = i by omega]
  rw [(t_len0 ⟨i, hi⟩).1]
theorem t_chr {i j : Nat} (hi : i < 12) (hj : j < (qL i).length) (w : zWd) : mJ0_charAt_5068e (253 + i) (nI j) w = some ((qL i).getD j 0, w) := by
  have h6 := (t_len0 ⟨i, hi⟩).2.2
  simp only at h6
  obtain ⟨c1, c2, c3, c4⟩ := t_chr0 ⟨i, hi⟩ ⟨j, by omega⟩ hj
  simp only at c1 c2 c3 c4
  have el := (t_len0 ⟨i, hi⟩).2.1
  simp only at el
  unfold mJ0_charAt_5068e mJ0_isLatin1_aae02 mJ0_isLatin1_aae02_18 mJ1_charAt_3b067 mJ0_checkIndex_df160 mJ3_checkIndex_8e157
  rw [if_neg (by decide), if_pos rfl, zgd_t zB1, zcl_s, if_neg (by decide), show 253 + i + 17 - 270 = i by omega, el, if_neg (show ¬ nI j < 0 from fun q => by rw [zlt, nIi (by omega)] at q; have : (0 : Int32).toInt = 0 := rfl; omega), if_pos (show nI j < Int32.ofNat (qL i).length from nI_lt hj (by omega)), zcl_s, zcl_s, zgd_t (show zin (nI j) (qL i).length from vp_in_nI hj (by omega)), nI_clamp (by omega)]
  rw [show (zTb.getD i []).getD j 0 = (qL i).getD j 0 from rfl, c1, zgd_t (t_narrow c3 c4).1, zcl_s, zgd_t (t_narrow c3 c4).1]
section WD
variable {w0 u w : zWd} {O n p s a o : Nat} {T : Int32}
/-- so many letters are the same -/
theorem c_same2 (ht : qTp0 w0 O n) (h : qRw w0 O u p 0 s) (hp : p ≤ 130) {i : Nat} (hi : i < 12) : ∀ (l : List Int32) (j F : Nat), (qL i).drop j = l → j + l.length = (qL i).length → l.length + 1 ≤ F → zlp (fun (k : Int32 × zWd → Option (Int32 × zWd)) (q : Int32 × zWd) => mX4_countSame_2b 216 (253 + i) k q.1 q.2) F (nI j, u) = some (nI (j + qCm (w0 13) n (p + j) l), u) := by
  have h6 := (t_len0 ⟨i, hi⟩).2.2
  simp only at h6
  obtain ⟨t1, t2, t3, t4, t5⟩ := ht
  obtain ⟨h1, h2, h3, h4, h5, h6b, h7, h8⟩ := h
  have e12 : u 12 = w0 12 := h1 12 (by omega) (by omega) (by omega)
  have e13 : u 13 = w0 13 := h1 13 (by omega) (by omega) (by omega)
  intro l
  induction l with
  | nil =>
    intro j F hd hl hF
    obtain ⟨F, rfl⟩ : ∃ F', F = F' + 1 := ⟨F - 1, by omega⟩
    rw [zlp_1]
    show mX4_countSame_2b 216 (253 + i) _ (nI j) u = _
    unfold mX4_countSame_2b
    simp only [List.length_nil] at hl
    rw [t_len hi, zcl_s, if_pos (nI_le (by omega) (by omega)), t_len hi, zcl_s, show qCm (w0 13) n (p + j) [] = 0 from rfl, show j + 0 = (qL i).length by omega]
  | cons c l ih =>
    intro j F hd hl hF
    simp only [List.length_cons] at hl hF
    obtain ⟨F, rfl⟩ : ∃ F', F = F' + 1 := ⟨F - 1, by omega⟩
    have hj : j < (qL i).length := by omega
    have hc : (qL i).getD j 0 = c := by
      have := List.drop_eq_getElem_cons hj
      rw [hd] at this
      rw [List.getD_eq_getElem?_getD, List.getElem?_eq_getElem hj, Option.getD_some]
      exact (List.cons.inj this).1.symm
    have hd2 : (qL i).drop (j + 1) = l := by
      have := List.drop_eq_getElem_cons hj
      rw [hd] at this
      exact (List.cons.inj this).2.symm
    have hcm := (t_chr0 ⟨i, hi⟩ ⟨j, by omega⟩ hj).2.1
    simp only at hcm
    rw [hc] at hcm
    rw [zlp_1]
    show mX4_countSame_2b 216 (253 + i) _ (nI j) u = _
    unfold mX4_countSame_2b mX4_countSame_48
    rw [t_len hi, zcl_s, if_neg (nI_ge hj (by omega)), h3, zgd_t (show ¬ (12 : Int32) = 0 by decide), zgd_t z9, h5]
    simp only [n12, e12, t1, nI_add, Nat.reduceAdd, e13]
    by_cases k : p + j < n
    · rw [if_neg (nI_ge k (by omega)), zgd_t (show ¬ (12 : Int32) = 0 by decide), zgd_t z9b, zgd_t (show zin (nI (p + j)) 120 from vp_in_nI (by omega) (by decide)), t_chr hi hj, zcl_s, hc, nI_clamp (by omega)]
      have eb : qB (w0 13) n (p + j) = w0 13 (p + j) := by unfold qB; rw [if_pos k]
      by_cases e : w0 13 (p + j) = c
      · rw [if_pos e, ← nI_succ, qCm_y (by rw [eb]; exact e)]
        have := ih (j + 1) F hd2 (by omega) (by omega)
        rw [show p + (j + 1) = p + j + 1 by omega, show j + 1 + qCm (w0 13) n (p + j + 1) l = j + (1 + qCm (w0 13) n (p + j + 1) l) by omega] at this
        exact this
      · rw [if_neg e, qCm_n (by rw [eb]; exact e), Nat.add_zero]
    · rw [if_pos (nI_le (by omega) (by omega)), qCm_n (by unfold qB; rw [if_neg k]; exact fun q => hcm q.symm), Nat.add_zero]
theorem c_same (ht : qTp0 w0 O n) (h : qRw w0 O u p 0 s) (hp : p ≤ 130) {i : Nat} (hi : i < 12) : mX4_countSame 216 (253 + i) u = some (nI (qCm (w0 13) n p (qL i)), u) := by
  have h6 := (t_len0 ⟨i, hi⟩).2.2
  simp only at h6
  have := c_same2 ht h hp hi (qL i) 0 zFU rfl (by omega) (by show _ ≤ 100000; omega)
  rw [Nat.zero_add, Nat.add_zero] at this
  exact this
/-- the model spells -/
theorem h_spells1 (h : qMs w0 a T o p 1 w) (c : Int32) : ∃ w', mX12_must 231 c w = some ((), w') ∧ qMs w0 a T o p 1 w' := by
  have h1 := h.wrong 1
  unfold mX12_must mX12_must_16 mX12_must_21 mX12_must_41
  rw [h.2.2.2.1, if_neg (show ¬ (1 : Int32) = 0 by decide), zgd_t zB1, zbn_e]
  generalize zup w 231 12 1 = w1 at h1 ⊢
  rw [h1.2.2.2.1, if_neg (show ¬ (1 : Int32) = 0 by decide), zbn_e, h1.2.2.1, Int32.add_zero]
  exact ⟨_, rfl, h1.spot p⟩
theorem h_spells2 (ht : qTx w0 a n) {i : Nat} (hi : i < 12) : ∀ (l : List Int32) (j F p : Nat) (e : Int32) (w : zWd), (qL i).drop j = l → j + l.length = (qL i).length → l.length + 1 ≤ F → p + l.length ≤ 150 → zB e → qMs w0 a T o p e w → ∃ w', zlp (fun (k : Int32 × zWd → Option (Unit × zWd)) (q : Int32 × zWd) => mX12_spells_2b 231 (253 + i) k q.1 q.2) F (nI j, w) = some ((), w') ∧ (if e = 0 then qMs w0 a T o (p + qCm (qFx w0 a) n p l) (if qCm (qFx w0 a) n p l = l.length then 0 else 1) w' else qMs w0 a T o p 1 w') := by
  have h6 := (t_len0 ⟨i, hi⟩).2.2
  simp only at h6
  intro l
  induction l with
  | nil =>
    intro j F p e w hd hl hF hp he h
    obtain ⟨F, rfl⟩ : ∃ F', F = F' + 1 := ⟨F - 1, by omega⟩
    simp only [List.length_nil] at hl
    refine ⟨w, ?_, ?_⟩
    · rw [zlp_1]
      show mX12_spells_2b 231 (253 + i) _ (nI j) w = _
      unfold mX12_spells_2b
      rw [t_len hi, zcl_s, if_pos (nI_le (by omega) (by omega))]
    · rcases he with rfl | rfl
      · rw [if_pos rfl]; exact h
      · rw [if_neg (by decide)]; exact h
  | cons c l ih =>
    intro j F p e w hd hl hF hp he h
    simp only [List.length_cons] at hl hF hp
    obtain ⟨F, rfl⟩ : ∃ F', F = F' + 1 := ⟨F - 1, by omega⟩
    have hj : j < (qL i).length := by omega
    have hc : (qL i).getD j 0 = c := by
      have := List.drop_eq_getElem_cons hj
      rw [hd] at this
      rw [List.getD_eq_getElem?_getD, List.getElem?_eq_getElem hj, Option.getD_some]
      exact (List.cons.inj this).1.symm
    have hd2 : (qL i).drop (j + 1) = l := by
      have := List.drop_eq_getElem_cons hj
      rw [hd] at this
      exact (List.cons.inj this).2.symm
    rw [zlp_1]
    show ∃ w', mX12_spells_2b 231 (253 + i) (zlp (fun (k : Int32 × zWd → Option (Unit × zWd)) (q : Int32 × zWd) => mX12_spells_2b 231 (253 + i) k q.1 q.2) F) (nI j) w = some ((), w') ∧ _
    unfold mX12_spells_2b
    rw [t_len hi, zcl_s, if_neg (nI_ge hj (by omega)), t_chr hi hj, zcl_s, hc]
    obtain ⟨w2, m1, m2⟩ := h_must w p ht (by omega) c e he h
    rw [m1, zcl_s, ← nI_succ]
    by_cases k : e = 0 ∧ qB (qFx w0 a) n p = c
    · rw [if_pos k] at m2
      obtain ⟨w', g1, g2⟩ := ih (j + 1) F (p + 1) 0 w2 hd2 (by omega) (by omega) (by omega) zB0 m2
      refine ⟨w', g1, ?_⟩
      rw [if_pos rfl] at g2
      rw [if_pos k.1, qCm_y k.2, List.length_cons]
      by_cases e3 : qCm (qFx w0 a) n (p + 1) l = l.length
      · rw [if_pos e3] at g2
        rw [if_pos (by omega), show p + (1 + qCm (qFx w0 a) n (p + 1) l) = p + 1 + qCm (qFx w0 a) n (p + 1) l by omega]
        exact g2
      · rw [if_neg e3] at g2
        rw [if_neg (by omega), show p + (1 + qCm (qFx w0 a) n (p + 1) l) = p + 1 + qCm (qFx w0 a) n (p + 1) l by omega]
        exact g2
    · rw [if_neg k] at m2
      obtain ⟨w', g1, g2⟩ := ih (j + 1) F p 1 w2 hd2 (by omega) (by omega) (by omega) zB1 m2
      refine ⟨w', g1, ?_⟩
      rw [if_neg (by decide)] at g2
      by_cases e3 : e = 0
      · rw [if_pos e3, qCm_n (fun q => k ⟨e3, q⟩), if_neg (by rw [List.length_cons]; omega)]
        exact g2
      · rw [if_neg e3]; exact g2
theorem h_spells (ht : qTx w0 a n) {i : Nat} (hi : i < 12) (hp : p ≤ 140) (h : qMs w0 a T o p 0 w) : ∃ w', mX12_spells 231 (253 + i) w = some ((), w') ∧ qMs w0 a T o (p + qCm (qFx w0 a) n p (qL i)) (if qCm (qFx w0 a) n p (qL i) = (qL i).length then 0 else 1) w' := by
  have h6 := (t_len0 ⟨i, hi⟩).2.2
  simp only at h6
  obtain ⟨w', g1, g2⟩ := h_spells2 (T := T) (o := o) ht hi (qL i) 0 zFU p 0 w rfl (by omega) (by show _ ≤ 100000; omega) (by omega) zB0 h
  rw [if_pos rfl] at g2
  exact ⟨w', g1, g2⟩
end WD
/-- a word and the blank behind it -/
def qWo (f : Nat → Int32) (n p i : Nat) : Nat × Option Nat := if qCm f n p (qL i ++ [32]) = (qL i).length + 1 then (p + ((qL i).length + 1), some i) else (p + qCm f n p (qL i ++ [32]), none)
def qWs (f : Nat → Int32) (n p : Nat) : Nat × Option Nat :=
  if qB f n p = 97 then qWo f n p 2 else if qB f n p = 100 then qWo f n p 1 else if qB f n p = 108 then (if qB f n (p + 1) = 97 then qWo f n p 3 else qWo f n p 4) else if qB f n p = 114 then qWo f n p 0 else if qB f n p = 115 then qWo f n p 5 else (p, none)
