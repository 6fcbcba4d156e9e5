section YCg
variable {kd tn sh : Nat → Int32} {cl : Nat → Nat} {T : Nat}
theorem yC2_c {C C' : Nat → Int32} (hP : yTp kd tn cl T) (h : ∀ j, j < 120 → C j = C' j) : ∀ t, t ≤ T → ∀ j, j < 120 → yC2 kd tn sh cl (yC1 C) t j = yC2 kd tn sh cl (yC1 C') t j
  | 0, _, j, hj => by
    show yC1 C j = yC1 C' j
    unfold yC1
    by_cases c1 : j < 30
    · rw [if_pos c1, if_pos c1, h j hj, h (60 + j) (by omega)]
    rw [if_neg c1, if_neg c1]
    by_cases c2 : j < 60
    · rw [if_pos c2, if_pos c2, h j hj, h (60 + j) (by omega)]
    · rw [if_neg c2, if_neg c2, h j hj]
  | t + 1, ht, j, hj => by
    have ih := yC2_c hP h t (by omega)
    have hc := (hP t (by omega)).1
    have hv : yV kd tn sh cl (yC2 kd tn sh cl (yC1 C) t) t = yV kd tn sh cl (yC2 kd tn sh cl (yC1 C') t) t := by
      unfold yV; rw [ih (30 + cl t) (by omega)]
    show upd (yC2 kd tn sh cl (yC1 C) t) (30 + cl t) _ j = upd (yC2 kd tn sh cl (yC1 C') t) (30 + cl t) _ j
    by_cases c : j = 30 + cl t
    · rw [c, qu_eq, qu_eq, ih _ (by omega), hv]
    · rw [qu_ne _ _ c, qu_ne _ _ c]; exact ih j hj
theorem yMv_cg {C C' : Nat → Int32} {p : Int32} {f a : Nat} (ha : a < 30) (hf : f ≤ 30) (h : ∀ j, j < 120 → C j = C' j) : yMv C p f 30 a = yMv C' p f 30 a := by
  unfold yMv
  have e0 := h (f + a) (by omega)
  by_cases c1 : 6 ≤ a ∧ a < 30 + 6
  · rw [if_pos c1, if_pos c1, h (f + (a - 6)) (by omega), e0]
    by_cases c2 : 0 < a % 6 ∧ a < 30 + 1
    · rw [if_pos c2, if_pos c2, h (f + (a - 1)) (by omega)]
      by_cases c3 : a < 30 ∧ a % 6 < 5
      · rw [if_pos c3, if_pos c3, h (f + (a + 1)) (by omega)]
        by_cases c4 : a < 30 ∧ a < 24
        · rw [if_pos c4, if_pos c4, h (f + (a + 6)) (by omega)]
        · rw [if_neg c4, if_neg c4]
      · rw [if_neg c3, if_neg c3]
        by_cases c4 : a < 30 ∧ a < 24
        · rw [if_pos c4, if_pos c4, h (f + (a + 6)) (by omega)]
        · rw [if_neg c4, if_neg c4]
    · rw [if_neg c2, if_neg c2]
      by_cases c3 : a < 30 ∧ a % 6 < 5
      · rw [if_pos c3, if_pos c3, h (f + (a + 1)) (by omega)]
        by_cases c4 : a < 30 ∧ a < 24
        · rw [if_pos c4, if_pos c4, h (f + (a + 6)) (by omega)]
        · rw [if_neg c4, if_neg c4]
      · rw [if_neg c3, if_neg c3]
        by_cases c4 : a < 30 ∧ a < 24
        · rw [if_pos c4, if_pos c4, h (f + (a + 6)) (by omega)]
        · rw [if_neg c4, if_neg c4]
  · rw [if_neg c1, if_neg c1, e0]
    by_cases c2 : 0 < a % 6 ∧ a < 30 + 1
    · rw [if_pos c2, if_pos c2, h (f + (a - 1)) (by omega)]
      by_cases c3 : a < 30 ∧ a % 6 < 5
      · rw [if_pos c3, if_pos c3, h (f + (a + 1)) (by omega)]
        by_cases c4 : a < 30 ∧ a < 24
        · rw [if_pos c4, if_pos c4, h (f + (a + 6)) (by omega)]
        · rw [if_neg c4, if_neg c4]
      · rw [if_neg c3, if_neg c3]
        by_cases c4 : a < 30 ∧ a < 24
        · rw [if_pos c4, if_pos c4, h (f + (a + 6)) (by omega)]
        · rw [if_neg c4, if_neg c4]
    · rw [if_neg c2, if_neg c2]
      by_cases c3 : a < 30 ∧ a % 6 < 5
      · rw [if_pos c3, if_pos c3, h (f + (a + 1)) (by omega)]
        by_cases c4 : a < 30 ∧ a < 24
        · rw [if_pos c4, if_pos c4, h (f + (a + 6)) (by omega)]
        · rw [if_neg c4, if_neg c4]
      · rw [if_neg c3, if_neg c3]
        by_cases c4 : a < 30 ∧ a < 24
        · rw [if_pos c4, if_pos c4, h (f + (a + 6)) (by omega)]
        · rw [if_neg c4, if_neg c4]
theorem ySc_c {C C' : Nat → Int32} (hP : yTp kd tn cl T) (h : ∀ j, j < 120 → C j = C' j) : ∀ i j, j < 120 → ySc kd tn sh cl T C i j = ySc kd tn sh cl T C' i j
  | 0, j, hj => h j hj
  | i + 1, j, hj => by
    have h2 := yC2_c (sh := sh) hP (ySc_c hP h i) T (Nat.le_refl T)
    show yD (yC2 kd tn sh cl (yC1 (ySc kd tn sh cl T C i)) T) j = yD (yC2 kd tn sh cl (yC1 (ySc kd tn sh cl T C' i)) T) j
    unfold yD
    by_cases c1 : j < 30
    · rw [if_pos c1, if_pos c1, h2 j hj, yMv_cg c1 (by omega) h2]
    rw [if_neg c1, if_neg c1]
    by_cases c2 : j < 60
    · rw [if_pos c2, if_pos c2, h2 j hj, yMv_cg (by omega) (by omega) h2]
    · rw [if_neg c2, if_neg c2, h2 j hj]
theorem yVH_c {C C' : Nat → Int32} (hP : yTp kd tn cl T) (h : ∀ j, j < 120 → C j = C' j) {t : Nat} (ht : t < T) : yVt kd tn sh cl C t = yVt kd tn sh cl C' t ∧ yHt kd tn sh cl C t = yHt kd tn sh cl C' t := by
  have h2 := yC2_c (sh := sh) hP h t (by omega)
  have hc := (hP t ht).1
  unfold yVt yHt yV yH
  rw [h2 (30 + cl t) (by omega), h2 (cl t) (by omega)]
  exact ⟨rfl, rfl⟩
theorem ySs_c {C C' S S' : Nat → Int32} (hP : yTp kd tn cl T) (h : ∀ j, j < 120 → C j = C' j) (hS : ∀ t, t < T → S t = S' t) : ∀ i t, t < T → ySs kd tn sh cl T C S i t = ySs kd tn sh cl T C' S' i t
  | 0, t, ht => hS t ht
  | i + 1, t, ht => by
    have g := yVH_c (sh := sh) hP (ySc_c (sh := sh) hP h i) ht
    show (if t < T then _ else _) = (if t < T then _ else _)
    rw [if_pos ht, if_pos ht, ySs_c hP h hS i t ht, g.1, g.2]
theorem ySf_c {C C' S S' ln ln' : Nat → Int32} (hP : yTp kd tn cl T) (h : ∀ j, j < 120 → C j = C' j) (hS : ∀ t, t < T → S t = S' t) (hL : ∀ t, t < T → ln t = ln' t) (i : Nat) {t : Nat} (ht : t < T) (q : Nat) : ySf kd tn sh cl T C S ln i t q = ySf kd tn sh cl T C' S' ln' i t q := by
  have g := yVH_c (sh := sh) hP (ySc_c (sh := sh) hP h i) ht
  unfold ySf
  rw [ySs_c hP h hS i t ht, g.1, g.2, hL t ht]
end YCg
def ySm (F : Nat → Int32) (x : Int32) : Nat → Int32
  | 0 => x
  | t + 1 => ySm F x t + F t
def yTot (F : Nat → Nat → Int32) (T : Nat) : Nat → Int32
  | 0 => 0
  | i + 1 => ySm (F i) (yTot F T i) T
theorem ySm_c {F F' : Nat → Int32} {x : Int32} : ∀ t, (∀ j, j < t → F j = F' j) → ySm F x t = ySm F' x t
  | 0, _ => rfl
  | t + 1, h => by unfold ySm; rw [ySm_c t (fun j hj => h j (by omega)), h t (by omega)]
theorem yTot_c {F F' : Nat → Nat → Int32} {T : Nat} (h : ∀ i t, t < T → F i t = F' i t) : ∀ i, yTot F T i = yTot F' T i
  | 0 => rfl
  | i + 1 => by unfold yTot; rw [yTot_c h i, ySm_c T (fun j hj => h i j hj)]
/-- what a new bore in a cell would let the others give -/
def yPv (w : zWd) (cl : Nat → Nat) (T c : Nat) (nn : Int32) : Int32 := yTot (fun i t => ySf (upd (w 4) T 1) (upd (w 6) T nn) (qBit (w 2 2)) (fun t => if t = T then c else cl t) (T + 1) (w 3) (upd (w 9) T 0) (upd (w 8) T 0) i t 0) T 5
theorem yTp_new {kd tn : Nat → Int32} {cl : Nat → Nat} {T c : Nat} {nn : Int32} (hP : yTp kd tn cl T) (hc : c < 30) (hn : 1 ≤ nn.toInt ∧ nn.toInt ≤ 500) : yTp (upd kd T 1) (upd tn T nn) (fun t => if t = T then c else cl t) (T + 1) := by
  intro t ht
  by_cases e : t = T
  · subst e
    rw [qu_eq, qu_eq]
    simp only [if_true]
    exact ⟨hc, fun _ => hn⟩
  · rw [qu_ne _ _ e, qu_ne _ _ e]
    simp only [if_neg e]
    exact hP t (by omega)
theorem s_addTap206 {w : zWd} {T : Nat} (hT : T < 12) (e1 : w 206 1 = nI T) (a b c d : Int32) : mX0_addTap 206 a b c d w = some (nI T, zup (zup (zup (zup (zup (zup (zup w 208 T a) 209 T b) 210 T c) 211 T d) 212 T 0) 213 T 0) 206 1 (nI (T + 1))) := by
  unfold mX0_addTap
  simp (disch := (first | omega | (simp (disch := omega) only [zu1, zu2, zu3, nIi, e1, T12]; omega))) only [if_true, if_false, zE10, zE00, zOkN, Nat.reduceAdd, Nat.reduceMul, zcl_s, zif01, zbn_e, nIi, nI_clamp, nI_add, nI_1, pk_mul, zgi, zlt, zle, Int32.zero_add, Int32.add_zero, C0, C1, G0, G1, Nat.zero_add, Nat.add_zero, l2, l3, l4, l5, l6, l7, l8, l10, l11, l12, l20, l30, l48, l50, l60, l100, l120, l140, l152, l164, l176, l188, l200, l212, l224, l1604, l1880, l2000, l2008, l2016, l2024, l2032, l2040, l2048, l2210, l2240, l2270, l2300, l2330, l2390, l2450, l2510, l2570, l2590, l2620, l2650, l2660, l2700, T0, T1, Tm1, Tm99, Tm999, p_within, p_in, p_isCell, p_isOwner, p_isDay11, p_isDay12, p_isTap11, p_isTaker11, if_pos, if_neg, p_isTap12, p_isTaker12, p_isGone, zu1, zu2, zu3, nIe, Nat.reduceSub, e1, T12]
theorem s_others11 {w : zWd} {T c : Nat} {cl : Nat → Nat} {nn : Int32} (hT : T < 12) (hc : c < 30) (hn : 1 ≤ nn.toInt ∧ nn.toInt ≤ 500) (hP : yTp (w 4) (w 6) cl T) (hR : yRg (w 3)) (e1 : w 2 1 = nI T) (k1 : ∀ t, t < T → w 5 t = nI (cl t)) : ∃ u, mX11_othersGive 0 (nI c) nn w = some (yPv w cl T c nn, u) ∧ ∀ x, x < 206 ∨ 216 ≤ x → u x = w x := by
  obtain ⟨wt, y1, y2, y3, y4, y5, y6⟩ := s_copy0 w
  have hP2 := yTp_new (c := c) (nn := nn) hP hc hn
  have ha := s_addTap206 (w := wt) hT (by rw [y3]; exact e1) 1 (nI c) nn (wt 1 0)
  let wa : zWd := zup (zup (zup (zup (zup (zup (zup wt 208 T 1) 209 T (nI c)) 210 T nn) 211 T (wt 1 0)) 212 T 0) 213 T 0) 206 1 (nI (T + 1))
  have ha2 : mX0_addTap 206 1 (nI c) nn (wt 1 0) wt = some (nI T, wa) := ha
  have at_ : ∀ (x : Nat) (o : Nat) (v : Int32) (f : Nat → Int32), (∀ j, wa x j = if j = T then v else wt x j) → (∀ j, j < 12 → wt x j = f j) → ∀ t, t < T + 1 → wa x t = upd f T v t := fun x o v f h1 h2 t ht => by
    rw [h1]
    by_cases e : t = T
    · rw [if_pos e, e, qu_eq]
    · rw [if_neg e, qu_ne _ _ e]; exact h2 t (by omega)
  have p208 : ∀ j, wa 208 j = if j = T then 1 else wt 208 j := fun j => by
    show zup (zup (zup (zup (zup (zup (zup wt 208 T 1) 209 T (nI c)) 210 T nn) 211 T (wt 1 0)) 212 T 0) 213 T 0) 206 1 (nI (T + 1)) 208 j = _
    simp (disch := omega) only [zu1]
    by_cases e : j = T
    · rw [if_pos e, e, zu3]
    · rw [if_neg e, zu2 _ _ e]
  have p209 : ∀ j, wa 209 j = if j = T then nI c else wt 209 j := fun j => by
    show zup (zup (zup (zup (zup (zup (zup wt 208 T 1) 209 T (nI c)) 210 T nn) 211 T (wt 1 0)) 212 T 0) 213 T 0) 206 1 (nI (T + 1)) 209 j = _
    simp (disch := omega) only [zu1]
    by_cases e : j = T
    · rw [if_pos e, e, zu3]
    · rw [if_neg e, zu2 _ _ e]; simp (disch := omega) only [zu1]
  have p210 : ∀ j, wa 210 j = if j = T then nn else wt 210 j := fun j => by
    show zup (zup (zup (zup (zup (zup (zup wt 208 T 1) 209 T (nI c)) 210 T nn) 211 T (wt 1 0)) 212 T 0) 213 T 0) 206 1 (nI (T + 1)) 210 j = _
    simp (disch := omega) only [zu1]
    by_cases e : j = T
    · rw [if_pos e, e, zu3]
    · rw [if_neg e, zu2 _ _ e]; simp (disch := omega) only [zu1]
  have p212 : ∀ j, wa 212 j = if j = T then 0 else wt 212 j := fun j => by
    show zup (zup (zup (zup (zup (zup (zup wt 208 T 1) 209 T (nI c)) 210 T nn) 211 T (wt 1 0)) 212 T 0) 213 T 0) 206 1 (nI (T + 1)) 212 j = _
    simp (disch := omega) only [zu1]
    by_cases e : j = T
    · rw [if_pos e, e, zu3]
    · rw [if_neg e, zu2 _ _ e]; simp (disch := omega) only [zu1]
  have p213 : ∀ j, wa 213 j = if j = T then 0 else wt 213 j := fun j => by
    show zup (zup (zup (zup (zup (zup (zup wt 208 T 1) 209 T (nI c)) 210 T nn) 211 T (wt 1 0)) 212 T 0) 213 T 0) 206 1 (nI (T + 1)) 213 j = _
    simp (disch := omega) only [zu1]
    by_cases e : j = T
    · rw [if_pos e, e, zu3]
    · rw [if_neg e, zu2 _ _ e]; simp (disch := omega) only [zu1]
  have p206 : wa 206 1 = nI (T + 1) := zu3 _ _ _ _
  have p2062 : wa 206 2 = w 2 2 := by
    show zup (zup (zup (zup (zup (zup (zup wt 208 T 1) 209 T (nI c)) 210 T nn) 211 T (wt 1 0)) 212 T 0) 213 T 0) 206 1 (nI (T + 1)) 206 2 = _
    rw [zu2 _ _ (by omega)]
    simp (disch := omega) only [zu1]
    exact y4
  have p207 : wa 207 = wt 207 := by
    show zup (zup (zup (zup (zup (zup (zup wt 208 T 1) 209 T (nI c)) 210 T nn) 211 T (wt 1 0)) 212 T 0) 213 T 0) 206 1 (nI (T + 1)) 207 = _
    simp (disch := omega) only [zpE]
  have plo : ∀ x, x < 206 ∨ 214 ≤ x → wa x = w x := fun x hx => by
    show zup (zup (zup (zup (zup (zup (zup wt 208 T 1) 209 T (nI c)) 210 T nn) 211 T (wt 1 0)) 212 T 0) 213 T 0) 206 1 (nI (T + 1)) x = _
    rw [zpE _ _ _ (by omega), zpE _ _ _ (by omega), zpE _ _ _ (by omega), zpE _ _ _ (by omega), zpE _ _ _ (by omega), zpE _ _ _ (by omega), zpE _ _ _ (by omega)]
    exact y2 x hx
  clear_value wa
  have k0' := at_ 208 0 1 (w 4) p208 (fun j hj => (y6 j hj).1)
  have k1' : ∀ t, t < T + 1 → wa 209 t = nI (if t = T then c else cl t) := fun t ht => by
    rw [p209]
    by_cases e : t = T
    · rw [if_pos e, if_pos e]
    · rw [if_neg e, if_neg e, (y6 t (by omega)).2.1]; exact k1 t (by omega)
  have k2' := at_ 210 0 nn (w 6) p210 (fun j hj => (y6 j hj).2.2.1)
  have k5' := at_ 212 0 0 (w 8) p212 (fun j hj => (y6 j hj).2.2.2.2.1)
  have k6' := at_ 213 0 0 (w 9) p213 (fun j hj => (y6 j hj).2.2.2.2.2)
  have hFF : ∀ i t, t < T → ySf (upd (w 4) T 1) (upd (w 6) T nn) (qBit (w 2 2)) (fun t => if t = T then c else cl t) (T + 1) (wa 207) (wa 213) (wa 212) i t 0 = ySf (upd (w 4) T 1) (upd (w 6) T nn) (qBit (w 2 2)) (fun t => if t = T then c else cl t) (T + 1) (w 3) (upd (w 9) T 0) (upd (w 8) T 0) i t 0 := fun i t ht => ySf_c hP2 (fun j hj => by rw [p207]; exact y5 j hj) k6' k5' i (by omega) 0
  have hV : yPv w cl T c nn = yTot (fun i t => ySf (upd (w 4) T 1) (upd (w 6) T nn) (qBit (w 2 2)) (fun t => if t = T then c else cl t) (T + 1) (wa 207) (wa 213) (wa 212) i t 0) T 5 := yTot_c (fun i t ht => (hFF i t ht).symm) 5
  rw [hV]
  generalize hF : (fun i t => ySf (upd (w 4) T 1) (upd (w 6) T nn) (qBit (w 2 2)) (fun t => if t = T then c else cl t) (T + 1) (wa 207) (wa 213) (wa 212) i t 0) = F
  have hFi : ∀ i t, ySf (upd (w 4) T 1) (upd (w 6) T nn) (qBit (w 2 2)) (fun t => if t = T then c else cl t) (T + 1) (wa 207) (wa 213) (wa 212) i t 0 = F i t := fun i t => by rw [← hF]
  unfold mX11_othersGive
  simp only [Nat.reduceAdd]
  rw [y1, zcl_s, ha2, zcl_s]
  unfold mX11_othersGive_38
  refine zlp_R (R := fun (Y : Option (Int32 × zWd)) => ∃ u, Y = some (yTot F T 5, u) ∧ ∀ x, x < 206 ∨ 216 ≤ x → u x = w x)
    (P := fun (i : Nat) (q : Int32 × Int32 × zWd) => ∃ u, q = (yTot F T i, nI i, u) ∧ (∀ x, x ≠ 207 → x ≠ 213 → x ≠ 214 → x ≠ 215 → u x = wa x) ∧ u 207 = ySc (upd (w 4) T 1) (upd (w 6) T nn) (qBit (w 2 2)) (fun t => if t = T then c else cl t) (T + 1) (wa 207) i ∧ u 213 = ySs (upd (w 4) T 1) (upd (w 6) T nn) (qBit (w 2 2)) (fun t => if t = T then c else cl t) (T + 1) (wa 207) (wa 213) i) (n := 5) (by unfold zFU; omega) ?_ ⟨wa, rfl, fun _ _ _ _ _ => rfl, rfl, rfl⟩
  rintro i hi q ⟨u, rfl, g1, g2, g3⟩ k hk
  simp only [mX11_othersGive_38b]
  by_cases e : i = 5
  · subst e
    rw [if_pos (by decide)]
    exact ⟨u, rfl, fun x hx => by rw [g1 x (by omega) (by omega) (by omega) (by omega)]; exact plo x (by omega)⟩
  obtain ⟨u2, m1, m2, m3, m4, m5⟩ := s_days11 (v0 := 206) (w := wa) (kd := upd (w 4) T 1) (tn := upd (w 6) T nn) (sh := qBit (w 2 2)) (cl := fun t => if t = T then c else cl t) (T := T + 1) (by omega) hP2 (by show yRg (wa 207); rw [p207]; exact yRg_c hR y5) p206 k0' k1' k2' (fun t ht => by rw [p2062]) (u := u) (i := i) (fun x h1 h2 h3 => g1 x (by omega) (by omega) (by omega) (by omega)) g2 g3
  simp only [Nat.reduceAdd] at m1 m2 m3 m4 m5
  simp only [Nat.reduceAdd]
  rw [if_neg (show ¬ (5 : Int32) ≤ nI i from nI_ge (b := 5) (by omega) (by decide)), m1, zcl_s]
  have hk' := hk (by omega) (yTot F T (i + 1), nI (i + 1), u2) ⟨u2, rfl, fun x h1 h2 h3 h4 => by rw [m2 x h1 h2 h3 h4]; exact g1 x h1 h2 h3 h4, m3, m4⟩
  have inner : mX11_othersGive_54 k 0 (nI T) (nI i) (yTot F T i) 0 u2 = k (yTot F T (i + 1), nI (i + 1), u2) := by
    unfold mX11_othersGive_54
    refine zlp_to (P := fun (t : Nat) (q : Int32 × Int32 × zWd) => q = (ySm (F i) (yTot F T i) t, nI t, u2)) (n := T) (by unfold zFU; omega) ?_ rfl
    rintro t ht q rfl kk hkk
    simp only [mX11_othersGive_54b]
    by_cases et : t = T
    · subst et
      rw [if_pos (nI_le (Nat.le_refl _) (by omega)), nI_succ]
      rfl
    · have f := m5 t 0 (by omega) (by omega)
      rw [hFi, Nat.add_zero] at f
      have ia : nI t * 4 + 0 = nI (4 * t) := by rw [show (4 : Int32) = nI 4 from rfl, pk_mul, Nat.mul_comm, Int32.add_zero]
      rw [if_neg (nI_ge (by omega) (by omega)), ia, zgd_t (show zin (nI (4 * t)) 48 from vp_in_nI (by omega) (by decide)), zbn_e]
      simp only [Nat.reduceAdd, nI_clamp (show 4 * t < 2 ^ 31 by omega), f]
      refine hkk (by omega) _ (by rw [← nI_succ]; rfl)
  rw [inner]
  exact hk'
