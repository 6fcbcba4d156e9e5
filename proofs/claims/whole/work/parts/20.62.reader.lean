/-! the class reads: THE TAPE's n bytes stand in cell 13; ORDER's cell O -/
def qRw (w0 : zWd) (O : Nat) (u : zWd) (p : Nat) (e : Int32) (s : Nat) : Prop := (∀ a, a ≠ 216 → a ≠ O → a ≠ O + 5 → u a = w0 a) ∧ (∀ j, j ≠ 6 → u O j = w0 O j) ∧ u 216 0 = 12 ∧ u 216 1 = nI O ∧ u 216 2 = nI p ∧ u 216 3 = e ∧ u O 6 = nI s ∧ s ≤ 120
/-- steps from place b on -/
def qSt (w0 : zWd) (O b : Nat) (u : zWd) (L : List Int32) : Prop := (∀ j, j < b → u (O + 5) j = w0 (O + 5) j) ∧ ∀ i, i < L.length → u (O + 5) (b + i) = L.getD i 0
/-- the tape, the order's cell -/
def qTp0 (w0 : zWd) (O n : Nat) : Prop := w0 12 0 = nI n ∧ n ≤ 120 ∧ zShp O = (2, 8) ∧ 16 ≤ O ∧ O + 5 ≤ 81
section CR
variable {w0 u : zWd} {O n p s b : Nat} {e : Int32}
theorem qRw.pl (h : qRw w0 O u p e s) (hO : O + 5 ≤ 81) (q : Nat) : qRw w0 O (zup u 216 2 (nI q)) q e s := by
  obtain ⟨h1, h2, h3, h4, h5, h6, h7, h8⟩ := h
  exact ⟨fun a a1 a2 a3 => by rw [zpE _ _ _ a1]; exact h1 a a1 a2 a3, fun j hj => by rw [zpE _ _ _ (by omega)]; exact h2 j hj, by rw [zu2 _ _ (by decide)]; exact h3, by rw [zu2 _ _ (by decide)]; exact h4, by rw [zu3], by rw [zu2 _ _ (by decide)]; exact h6, by rw [zpE _ _ _ (by omega)]; exact h7, h8⟩
theorem qRw.fl (h : qRw w0 O u p e s) (hO : O + 5 ≤ 81) (d : Int32) : qRw w0 O (zup u 216 3 d) p d s := by
  obtain ⟨h1, h2, h3, h4, h5, h6, h7, h8⟩ := h
  exact ⟨fun a a1 a2 a3 => by rw [zpE _ _ _ a1]; exact h1 a a1 a2 a3, fun j hj => by rw [zpE _ _ _ (by omega)]; exact h2 j hj, by rw [zu2 _ _ (by decide)]; exact h3, by rw [zu2 _ _ (by decide)]; exact h4, by rw [zu2 _ _ (by decide)]; exact h5, by rw [zu3], by rw [zpE _ _ _ (by omega)]; exact h7, h8⟩
theorem qSt.zu {L : List Int32} (h : qSt w0 O b u L) (hO : O + 5 ≤ 81) (j : Nat) (v : Int32) : qSt w0 O b (zup u 216 j v) L := ⟨fun i hi => by rw [zpE _ _ _ (by omega)]; exact h.1 i hi, fun i hi => by rw [zpE _ _ _ (by omega)]; exact h.2 i hi⟩
theorem z9 : zShp (12 : Int32).toNatClampNeg = (9, 2) := by decide +kernel
theorem z9b : zShp 12 = (9, 2) := by decide +kernel
theorem n12 : (12 : Int32).toNatClampNeg = 12 := by decide
theorem c_now0 (ht : qTp0 w0 O n) (h : qRw w0 O u p 0 s) (hp : p ≤ 150) : mX4_now 216 u = some (qB (w0 13) n p, u) := by
  obtain ⟨t1, t2, t3, t4, t5⟩ := ht
  obtain ⟨h1, h2, h3, h4, h5, h6, h7, h8⟩ := h
  have e12 : u 12 = w0 12 := h1 12 (by omega) (by omega) (by omega)
  have e13 : u 13 = w0 13 := h1 13 (by omega) (by omega) (by omega)
  unfold mX4_now mX4_now_21 mX4_now_37
  rw [h6, if_pos rfl, h3, zgd_t (show ¬ (12 : Int32) = 0 by decide), zgd_t z9, h5]
  simp only [n12, e12, t1, Nat.reduceAdd, e13]
  unfold qB
  by_cases c : p < n
  · rw [if_pos c, if_pos (nI_lt c (by omega)), zgd_t (show ¬ (12 : Int32) = 0 by decide), zgd_t z9b, zgd_t (show zin (nI p) 120 from vp_in_nI (by omega) (by decide)), nI_clamp (by omega)]
  · rw [if_neg c, if_neg (show ¬ nI p < nI n by rw [zlt, nIi (by omega), nIi (by omega)]; omega)]
theorem c_now1 (h : qRw w0 O u p 1 s) : mX4_now 216 u = some (-1, u) := by
  obtain ⟨h1, h2, h3, h4, h5, h6, h7, h8⟩ := h
  unfold mX4_now mX4_now_21 mX4_now_37
  rw [h6, if_neg (by decide)]
theorem c_take0 (ht : qTp0 w0 O n) (h : qRw w0 O u p 0 s) (hp : p ≤ 150) {c : Int32} (hc : ¬ c = -1) : mX4_take 216 c u = if qB (w0 13) n p = c then some (1, zup u 216 2 (nI (p + 1))) else some (0, u) := by
  obtain ⟨t1, t2, t3, t4, t5⟩ := ht
  obtain ⟨h1, h2, h3, h4, h5, h6, h7, h8⟩ := h
  have e12 : u 12 = w0 12 := h1 12 (by omega) (by omega) (by omega)
  have e13 : u 13 = w0 13 := h1 13 (by omega) (by omega) (by omega)
  unfold mX4_take mX4_take_37
  rw [h6, if_pos rfl, h3, zgd_t (show ¬ (12 : Int32) = 0 by decide), zgd_t z9, h5]
  simp only [n12, e12, t1, Nat.reduceAdd, e13]
  unfold qB
  by_cases k : p < n
  · rw [if_pos k, if_neg (nI_ge k (by omega)), zgd_t (show ¬ (12 : Int32) = 0 by decide), zgd_t z9b, zgd_t (show zin (nI p) 120 from vp_in_nI (by omega) (by decide)), nI_clamp (by omega)]
    simp only [zgd_t zB1, zgd_t zB0, zbn_e, nI_succ]
  · rw [if_neg k, if_pos (nI_le (by omega) (by omega)), zgd_t zB0, if_neg (Ne.symm hc)]
theorem c_take1 (h : qRw w0 O u p 1 s) (c : Int32) : mX4_take 216 c u = some (0, u) := by
  obtain ⟨h1, h2, h3, h4, h5, h6, h7, h8⟩ := h
  unfold mX4_take mX4_take_37
  rw [h6, if_neg (by decide), zgd_t zB0]
theorem c_need0 (ht : qTp0 w0 O n) (h : qRw w0 O u p 0 s) (hp : p ≤ 150) {c : Int32} (hc : ¬ c = -1) : mX4_need 216 c u = if qB (w0 13) n p = c then some ((), zup u 216 2 (nI (p + 1))) else some ((), zup u 216 3 1) := by
  unfold mX4_need mX4_need_13
  rw [c_take0 ht h hp hc]
  by_cases k : qB (w0 13) n p = c
  · rw [if_pos k, if_pos k, zcl_s, if_neg (by decide)]
  · rw [if_neg k, if_neg k, zcl_s, if_pos rfl, zgd_t zB1, zbn_e]
theorem c_need1 (h : qRw w0 O u p 1 s) (c : Int32) : mX4_need 216 c u = some ((), zup u 216 3 1) := by
  unfold mX4_need mX4_need_13
  rw [c_take1 h, zcl_s, if_pos rfl, zgd_t zB1, zbn_e]
theorem c_num1 (hO : O + 5 ≤ 81) (h : qRw w0 O u p 1 s) : ∃ x u', mX4_readNumber 216 u = some (x, u') ∧ qRw w0 O u' p 1 s := by
  refine ⟨0, zup u 216 3 1, ?_, h.fl hO 1⟩
  unfold mX4_readNumber mX4_readNumber_4
  rw [show zFU = 99999 + 1 from rfl, zlp_1]
  show mX4_readNumber_4b 216 _ 0 0 u = _
  unfold mX4_readNumber_4b mX4_readNumber_26 mX4_readNumber_38 mX4_readNumber_43
  rw [if_neg (by decide), c_now1 h, zcl_s, if_pos (by decide), h.2.2.2.2.2.1, if_neg (by decide), zgd_t zB1, zbn_e]
/-- a number, from a state without a failure -/
theorem c_num (ht : qTp0 w0 O n) (h : qRw w0 O u p 0 s) (hp : p ≤ 140) : ∃ x u', mX4_readNumber 216 u = some (x, u') ∧ (∀ L, qSt w0 O b u L → qSt w0 O b u' L) ∧ (match qNum (w0 13) n p with | (p', some v) => x = v ∧ qRw w0 O u' p' 0 s | (p', none) => qRw w0 O u' p' 1 s) := by
  have hO := ht.2.2.2.2
  have i10 : ¬ (1 : Int32) = 0 := by decide
  -- a turn
  have turn : ∀ (k : Int32 × Int32 × zWd → Option (Int32 × zWd)) (v : Int32) (d q : Nat) (u2 : zWd), qRw w0 O u2 q 0 s → q ≤ 145 → d < 3 → mX4_readNumber_4b 216 k v (nI d) u2 = if qDig (qB (w0 13) n q) then (if v * 10 + qB (w0 13) n q - 48 = 0 then some (0, zup u2 216 2 (nI (q + 1))) else k (v * 10 + qB (w0 13) n q - 48, nI (d + 1), zup u2 216 2 (nI (q + 1)))) else some (v, zup u2 216 3 (if d = 0 then 1 else 0)) := by
    intro k v d q u2 h2 hq hd
    unfold mX4_readNumber_4b mX4_readNumber_26 mX4_readNumber_38 mX4_readNumber_43
    rw [if_neg (show ¬ (3 : Int32) ≤ nI d from nI_ge (b := 3) hd (by decide)), c_now0 ht h2 (by omega), zcl_s]
    have stop : (if u2 216 3 = 0 then if nI d = 0 then zgd (zB 1) (zbn (zup u2 216 3 1) fun w3 => some (v, w3)) else zgd (zB 0) (zbn (zup u2 216 3 0) fun w3 => some (v, w3)) else zgd (zB 1) (zbn (zup u2 216 3 1) fun w3 => some (v, w3))) = some (v, zup u2 216 3 (if d = 0 then 1 else 0)) := by
      rw [h2.2.2.2.2.2.1, if_pos rfl]
      by_cases d0 : d = 0
      · rw [if_pos (show nI d = 0 by rw [d0]; rfl), zgd_t zB1, zbn_e, if_pos d0]
      · rw [if_neg (show ¬ nI d = 0 from fun q => d0 ((nIe (b := 0) (by omega) (by omega)).mp q)), zgd_t zB0, zbn_e, if_neg d0]
    by_cases c1 : qB (w0 13) n q < 48
    · rw [if_pos c1, if_neg (show ¬ qDig (qB (w0 13) n q) from fun x => by have := x.1; rw [zle] at this; rw [zlt] at c1; omega)]
      exact stop
    rw [if_neg c1]
    by_cases c2 : qB (w0 13) n q ≤ 57
    · rw [if_pos c2, if_pos (show qDig (qB (w0 13) n q) from ⟨by rw [zle]; rw [zlt] at c1; omega, c2⟩), zbn_e, zbn_e, h2.2.2.2.2.1, ← nI_succ, ← nI_succ]
    · rw [if_neg c2, if_neg (show ¬ qDig (qB (w0 13) n q) from fun x => c2 x.2)]
      exact stop
  have last : ∀ (k : Int32 × Int32 × zWd → Option (Int32 × zWd)) (v : Int32) (u2 : zWd), mX4_readNumber_4b 216 k v (nI 3) u2 = some (v, u2) := by
    intro k v u2
    unfold mX4_readNumber_4b
    rw [if_pos (by decide)]
  have e0 : ∀ m, nI (48 + m) - 48 = nI m := fun m => by rw [show (48 : Int32) = nI 48 from rfl, pk_sub (by omega)]; congr 1; omega
  have e10 : ∀ a m, nI a * 10 + nI (48 + m) - 48 = nI (a * 10 + m) := fun a m => by rw [show (48 : Int32) = nI 48 from rfl, show (10 : Int32) = nI 10 from rfl, pk_mul, nI_add, pk_sub (by omega)]; congr 1; omega
  have nz : ∀ m, m < 2 ^ 31 → (nI m = 0) = (m = 0) := fun m hm => nIe (b := 0) hm (by omega)
  unfold mX4_readNumber mX4_readNumber_4
  rw [show zFU = 99996 + 1 + 1 + 1 + 1 from rfl, zlp_1]
  show ∃ x u', mX4_readNumber_4b 216 _ 0 (nI 0) u = some (x, u') ∧ _
  rw [turn _ _ 0 p u h (by omega) (by decide)]
  unfold qNum
  by_cases d0 : qDig (qB (w0 13) n p)
  rotate_left
  · simp only [if_neg d0]
    exact ⟨0, _, rfl, fun L hL => hL.zu hO _ _, h.fl hO 1⟩
  simp only [if_pos d0]
  obtain ⟨m0, hm0, em0⟩ := qDig_nI d0
  have x0 : (0 : Int32) * 10 + qB (w0 13) n p - 48 = nI m0 := by rw [em0, Int32.zero_mul, Int32.zero_add, e0]
  rw [x0]
  have h1 := h.pl hO (p + 1)
  by_cases c48 : qB (w0 13) n p = 48
  · have m00 : m0 = 0 := by rw [em0, show (48 : Int32) = nI 48 from rfl, nIe (by omega) (by omega)] at c48; omega
    simp only [if_pos c48]
    rw [if_pos (show nI m0 = 0 by rw [m00]; rfl)]
    exact ⟨0, _, rfl, fun L hL => hL.zu hO _ _, rfl, h1⟩
  have m01 : ¬ m0 = 0 := fun z => by rw [z] at em0; exact c48 em0
  simp only [if_neg c48]
  rw [if_neg (show ¬ nI m0 = 0 from fun q => m01 (by rw [nz m0 (by omega)] at q; exact q)), zlp_1]
  show ∃ x u', mX4_readNumber_4b 216 _ (nI m0) (nI 1) (zup u 216 2 (nI (p + 1))) = some (x, u') ∧ _
  rw [turn _ _ 1 (p + 1) _ h1 (by omega) (by decide)]
  have v0 : qB (w0 13) n p - 48 = nI m0 := by rw [em0, e0]
  by_cases d1 : qDig (qB (w0 13) n (p + 1))
  rotate_left
  · simp only [if_neg d1]
    exact ⟨_, _, rfl, fun L hL => (hL.zu hO _ _).zu hO _ _, v0.symm, h1.fl hO 0⟩
  simp only [if_pos d1]
  obtain ⟨m1, hm1, em1⟩ := qDig_nI d1
  have v1 : qB (w0 13) n (p + 1) - 48 = nI m1 := by rw [em1, e0]
  rw [em1, e10, if_neg (show ¬ nI (m0 * 10 + m1) = 0 from fun q => by rw [nz _ (by omega)] at q; omega), zlp_1]
  have h2 := h1.pl hO (p + 1 + 1)
  show ∃ x u', mX4_readNumber_4b 216 _ (nI (m0 * 10 + m1)) (nI 2) _ = some (x, u') ∧ _
  rw [turn _ _ 2 (p + 1 + 1) _ h2 (by omega) (by decide)]
  have w1 : nI m0 * 10 + (nI (48 + m1) - 48) = nI (m0 * 10 + m1) := by rw [e0, show (10 : Int32) = nI 10 from rfl, pk_mul, nI_add]
  simp only [show p + 2 = p + 1 + 1 from rfl, v0]
  by_cases d2 : qDig (qB (w0 13) n (p + 1 + 1))
  rotate_left
  · simp only [if_neg d2]
    exact ⟨_, _, rfl, fun L hL => ((hL.zu hO _ _).zu hO _ _).zu hO _ _, w1.symm, h2.fl hO 0⟩
  simp only [if_pos d2]
  obtain ⟨m2, hm2, em2⟩ := qDig_nI d2
  rw [em2, e10, if_neg (show ¬ nI ((m0 * 10 + m1) * 10 + m2) = 0 from fun q => by rw [nz _ (by omega)] at q; omega), zlp_1]
  refine ⟨_, _, last _ _ _, fun L hL => ((hL.zu hO _ _).zu hO _ _).zu hO _ _, ?_, h2.pl hO (p + 1 + 1 + 1)⟩
  rw [w1, e0, show (10 : Int32) = nI 10 from rfl, pk_mul, nI_add]
/-- a step is added -/
theorem c_add (ht : qTp0 w0 O n) (h : qRw w0 O u p e s) (k v : Int32) : ∃ u', mX2_addStep O k v u = some ((), u') ∧ (∃ s', qRw w0 O u' p e s') ∧ ∀ L, s < 120 → s = b + L.length → qSt w0 O b u L → qRw w0 O u' p e (s + 1) ∧ qSt w0 O b u' (L ++ [k * 1000 + v]) := by
  obtain ⟨t1, t2, t3, t4, t5⟩ := ht
  have h0 := h
  obtain ⟨h1, h2, h3, h4, h5, h6, h7, h8⟩ := h
  unfold mX2_addStep mX2_addStep_35
  by_cases c : s < 120
  · have hn : qRw w0 O (zup (zup u (O + 5) s (k * 1000 + v)) O 6 (nI (s + 1))) p e (s + 1) := by
      refine ⟨fun a a1 a2 a3 => by rw [zpE _ _ _ a2, zpE _ _ _ a3]; exact h1 a a1 a2 a3, fun j hj => by rw [zu2 _ _ hj, zpE _ _ _ (by omega)]; exact h2 j hj, ?_, ?_, ?_, ?_, by rw [zu3], by omega⟩
      · rw [zpE _ _ _ (by omega), zpE _ _ _ (by omega)]; exact h3
      · rw [zpE _ _ _ (by omega), zpE _ _ _ (by omega)]; exact h4
      · rw [zpE _ _ _ (by omega), zpE _ _ _ (by omega)]; exact h5
      · rw [zpE _ _ _ (by omega), zpE _ _ _ (by omega)]; exact h6
    refine ⟨_, ?_, ⟨s + 1, hn⟩, fun L _ hs hL => ⟨hn, fun j hj => ?_, fun i hi => ?_⟩⟩
    · rw [h7, if_neg (show ¬ (120 : Int32) ≤ nI s from nI_ge (b := 120) c (by decide)), zgd_t (show zin (nI s) 120 from vp_in_nI c (by decide)), zbn_e, zbn_e, nI_clamp (by omega), zpE _ _ _ (show O ≠ O + 5 by omega), h7, nI_succ]
    · rw [zpE _ _ _ (by omega), zu2 _ _ (by omega)]; exact hL.1 j hj
    · rw [zpE _ _ _ (by omega)]
      simp only [List.length_append, List.length_cons, List.length_nil] at hi
      by_cases ei : i = L.length
      · rw [ei, ← hs, zu3]
        simp [List.getD_eq_getElem?_getD]
      · rw [zu2 _ _ (by omega), hL.2 i (by omega)]
        rw [List.getD_eq_getElem?_getD, List.getD_eq_getElem?_getD, List.getElem?_append_left (by omega)]
  · refine ⟨u, ?_, ⟨s, h0⟩, fun L hs => absurd hs c⟩
    rw [h7, if_pos (show (120 : Int32) ≤ nI s from nI_le (a := 120) (by omega) (by omega))]
end CR
