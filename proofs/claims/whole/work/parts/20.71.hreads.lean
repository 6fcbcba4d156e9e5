/-! the model reads the clauses -/
section HS
variable {w0 B w : zWd} {a o p n k q : Nat} {T e v : Int32}
theorem h_reads (ht : qTx w0 a n) (ha : a ≤ 10) (hk8 : k ≤ 7) (hk : w0 232 (1600 + a) = nI k) (hp : p ≤ n) (h : qMs w0 a (-1) 0 p 0 w) : qHn w0 a k (mX12_reads 231 (nI a) w) (qCl (qFx w0 a) n p) := by
  have hn := ht.2.1
  have e232 := h.1.1 232 (by decide)
  have f (c j : Nat) (hj : c + j < 21948) : zin (nI (c + j)) 21948 := vp_in_nI hj (by decide)
  have e8 : (8 : Int32) * nI a + nI k = nI (8 * a + k) := by rw [show (8 : Int32) = nI 8 from rfl, pk_mul, nI_add]
  have i1600 : (1600 : Int32) + nI a = nI (1600 + a) := by rw [show (1600 : Int32) = nI 1600 from rfl, nI_add]
  have i1612 : (1612 : Int32) + nI (8 * a + k) = nI (1612 + (8 * a + k)) := by rw [show (1612 : Int32) = nI 1612 from rfl, nI_add]
  have i1700 : (1700 : Int32) + nI (8 * a + k) = nI (1700 + (8 * a + k)) := by rw [show (1700 : Int32) = nI 1700 from rfl, nI_add]
  unfold mX12_reads
  rw [i1600, zgd_t (f 1600 a (by omega)), nI_clamp (by omega), show 231 + 1 = 232 from rfl, e232, hk, e8, zbn_e]
  obtain ⟨r2, w3, m1, m2⟩ := h_word ht h (by omega)
  rw [m1, zcl_s, i1612, zgd_t (f 1612 _ (by omega)), zbn_e, nI_clamp (by omega)]
  have gW := qWs_in (f := qFx w0 a) hp
  unfold qCl
  match e1 : qWs (qFx w0 a) n p with
  | (p1, none) =>
    rw [e1] at m2
    have m3 := m2.1.s_ (1612 + (8 * a + k)) r2
    rw [m3.2.2.2.1, if_neg (show ¬ (1 : Int32) = 0 by decide)]
    exact ⟨_, _, rfl, (qMb.rf w0 a k).up (Or.inr (Or.inl rfl)) _, m3⟩
  | (p1, some i) =>
    rw [e1] at m2 gW
    obtain ⟨rfl, hi, m2⟩ := m2
    have gW1 := gW.1
    simp only at gW1
    have m3 := m2.s_ (1612 + (8 * a + k)) (nI i)
    have ht3 := ht.s_ (j := 1612 + (8 * a + k)) (by omega) (nI i)
    have hb3 := (qMb.rf w0 a k).up (j := 1612 + (8 * a + k)) (Or.inr (Or.inl rfl)) (nI i)
    have hf3 := qFx_s ht ha (j := 1612 + (8 * a + k)) (by omega) (nI i)
    have hk3 : zup w0 232 (1612 + (8 * a + k)) (nI i) 232 (1600 + a) = nI k := by rw [zu2 _ _ (by omega)]; exact hk
    have hx3 : zup w0 232 (1612 + (8 * a + k)) (nI i) 232 (1612 + (8 * a + k)) = nI i := by rw [zu3]
    generalize zup w0 232 (1612 + (8 * a + k)) (nI i) = B3 at m3 ht3 hb3 hf3 hk3 hx3
    generalize zup w3 232 (1612 + (8 * a + k)) (nI i) = w4 at m3
    rw [m3.2.2.2.1, if_pos rfl]
    -- behind the number
    have go : ∀ (y : Int32) (w5 : zWd) (p2 : Nat), p2 ≤ n → qMs B3 a (-1) 0 p2 0 w5 → qHn w0 a k (mX12_reads_125 231 (nI a) (nI (8 * a + k)) (nI i) (zup w5 232 (1700 + (8 * a + k)) y)) (if i = 0 then (if qB (qFx w0 a) n p2 = 32 then (match qE (qFx w0 a) n (p2 + 1) with | (p3, some l) => (p3, some (0, y, p2 + 1, l)) | (p3, none) => (p3, none)) else (p2, none)) else (p2, some (nI i, y, 0, []))) := by
      intro y w5 p2 hp2 m5
      have hf5 : ∀ p, qB (qFx (zup B3 232 (1700 + (8 * a + k)) y) a) n p = qB (qFx w0 a) n p := fun p => by rw [qFx_s ht3 ha (by omega) y p]; exact hf3 p
      have := h_125 (w0 := w0) (x := y) (ht3.s_ (j := 1700 + (8 * a + k)) (by omega) y) ha hk8 (hb3.up (Or.inr (Or.inr (Or.inl rfl))) y) (by rw [zu2 _ _ (by omega)]; exact hk3) hp2 (m5.s_ (1700 + (8 * a + k)) y) hi (by rw [zu2 _ _ (by omega)]; exact hx3) (by rw [zu3])
      rw [hf5, qE_congr hf5] at this
      exact this
    have gow : ∀ (y : Int32) (w5 : zWd) (p2 : Nat), qMs B3 a (-1) 0 p2 1 w5 → qHn w0 a k (mX12_reads_125 231 (nI a) (nI (8 * a + k)) (nI i) (zup w5 232 (1700 + (8 * a + k)) y)) (p2, none) := fun y w5 p2 m5 => h_125w ha hk8 (hb3.up (Or.inr (Or.inr (Or.inl rfl))) y) (by rw [zu2 _ _ (by omega)]; exact hk3) (m5.s_ (1700 + (8 * a + k)) y) (nI i)
    simp only
    by_cases c5 : i = 5
    · rw [if_pos (show nI i = 5 by rw [c5]; rfl), if_pos c5, h_here ht3 m3 (by omega), zcl_s, hf3, p_in, zcl_s]
      have e48 : (48 : Int32).toInt = 48 := by decide
      have e50 : (50 : Int32).toInt = 50 := by decide
      unfold qShr
      by_cases kk : 48 ≤ qB (qFx w0 a) n p1 ∧ qB (qFx w0 a) n p1 ≤ 50
      · have hp1 : p1 < n := by
          by_cases q : p1 < n
          · exact q
          · have : qB (qFx w0 a) n p1 = -1 := by unfold qB; rw [if_neg q]
            rw [this] at kk; exact absurd kk.1 (by decide)
        rw [if_pos kk, if_pos (show (48 : Int32).toInt ≤ (qB (qFx w0 a) n p1).toInt ∧ (qB (qFx w0 a) n p1).toInt ≤ (50 : Int32).toInt from ⟨by have := kk.1; rw [zle] at this; exact this, by have := kk.2; rw [zle] at this; exact this⟩), if_neg (show ¬ (1 : Int32) = 0 by decide)]
        unfold mX12_reads_69 mX12_reads_89
        have m4 := m3.wrong 0
        rw [zgd_t zB0, zbn_e, m4.2.2.2.1, if_pos rfl, zbn_e, m4.2.2.1, ← nI_succ, i1700, zgd_t (f 1700 _ (by omega)), zbn_e, nI_clamp (by omega)]
        have := go (qB (qFx w0 a) n p1 - 48) _ (p1 + 1) (by omega) (m4.spot (p1 + 1))
        rw [if_neg (show ¬ i = 0 by omega), show nI i = (5 : Int32) by rw [c5]; rfl] at this
        rw [show nI i = (5 : Int32) by rw [c5]; rfl]
        exact this
      · rw [if_neg kk, if_neg (show ¬ ((48 : Int32).toInt ≤ (qB (qFx w0 a) n p1).toInt ∧ (qB (qFx w0 a) n p1).toInt ≤ (50 : Int32).toInt) from fun q => kk ⟨by rw [zle]; exact q.1, by rw [zle]; exact q.2⟩), if_pos rfl]
        unfold mX12_reads_69 mX12_reads_89
        have m4 := m3.wrong 1
        rw [zgd_t zB1, zbn_e, m4.2.2.2.1, if_neg (show ¬ (1 : Int32) = 0 by decide), zbn_e, m4.2.2.1, Int32.add_zero, i1700, zgd_t (f 1700 _ (by omega)), zbn_e, nI_clamp (by omega)]
        exact gow _ _ p1 (m4.spot p1)
    · rw [if_neg (show ¬ nI i = 5 from fun q => c5 (by rw [show (5 : Int32) = nI 5 from rfl, nIe (by omega) (by omega)] at q; exact q)), if_neg c5]
      obtain ⟨y, w5, g1, g2⟩ := h_num ht3 m3 (by omega)
      rw [qNum_congr hf3] at g2
      have gN := qNum_in (f := qFx w0 a) gW1
      rw [g1, zcl_s, i1700, zgd_t (f 1700 _ (by omega)), zbn_e, nI_clamp (by omega)]
      match e2 : qNum (qFx w0 a) n p1 with
      | (p2, none) =>
        rw [e2] at g2
        exact gow _ _ p2 g2
      | (p2, some z) =>
        rw [e2] at g2 gN
        obtain ⟨rfl, g3⟩ := g2
        exact go _ _ p2 gN g3
/-- the clauses in the model's row -/
def qMk (B : zWd) (a : Nat) (cs : List qCl1) : Prop := B 232 (1600 + a) = nI cs.length ∧ ∀ i, i < cs.length → ∃ c, cs[i]? = some c ∧ B 232 (1612 + (8 * a + i)) = c.1 ∧ B 232 (1700 + (8 * a + i)) = c.2.1 ∧ (c.1 = 0 → B 232 (1790 + (8 * a + i)) = nI c.2.2.1)
def qMd (w0 B : zWd) (a : Nat) : Prop := (∀ c, c ≠ 232 → B c = w0 c) ∧ ∀ j, (∀ k, k ≤ 7 → ¬ qPut a k j) → B 232 j = w0 232 j
theorem qMk.add {cs : List qCl1} {c : qCl1} (h : qMk w0 a cs) (hl : cs.length ≤ 7) (hb : qMb w0 B a cs.length) (h1 : B 232 (1600 + a) = nI (cs.length + 1)) (h2 : B 232 (1612 + (8 * a + cs.length)) = c.1) (h3 : B 232 (1700 + (8 * a + cs.length)) = c.2.1) (h4 : c.1 = 0 → B 232 (1790 + (8 * a + cs.length)) = nI c.2.2.1) (ha : a ≤ 10) : qMk B a (cs ++ [c]) := by
  refine ⟨by rw [h1, List.length_append]; rfl, fun i hi => ?_⟩
  simp only [List.length_append, List.length_cons, List.length_nil] at hi
  by_cases ei : i = cs.length
  · rw [ei]
    exact ⟨c, by simp, h2, h3, h4⟩
  · obtain ⟨c2, d1, d2, d3, d4⟩ := h.2 i (by omega)
    refine ⟨c2, by rw [List.getElem?_append_left (by omega)]; exact d1, ?_, ?_, fun q => ?_⟩
    · rw [hb.2 _ (by unfold qPut; omega)]; exact d2
    · rw [hb.2 _ (by unfold qPut; omega)]; exact d3
    · rw [hb.2 _ (by unfold qPut; omega)]; exact d4 q
end HS
