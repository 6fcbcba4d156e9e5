/-! reading: a text f of n bytes from place p on; an answer: the place behind, and the steps (none: it fails there) -/
def qB (f : Nat → Int32) (n p : Nat) : Int32 := if p < n then f p else -1
abbrev qDig (x : Int32) : Prop := 48 ≤ x ∧ x ≤ 57
abbrev qRes : Type := Nat × Option (List Int32)
def qNum (f : Nat → Int32) (n p : Nat) : Nat × Option Int32 :=
  if qDig (qB f n p) then
    if qB f n p = 48 then (p + 1, some 0)
    else if qDig (qB f n (p + 1)) then
      if qDig (qB f n (p + 2)) then (p + 3, some (((qB f n p - 48) * 10 + (qB f n (p + 1) - 48)) * 10 + (qB f n (p + 2) - 48)))
      else (p + 2, some ((qB f n p - 48) * 10 + (qB f n (p + 1) - 48)))
    else (p + 1, some (qB f n p - 48))
  else (p, none)
def qTs2 (f : Nat → Int32) (n p : Nat) (k : Int32) : qRes := match qNum f n p with
  | (p', some v) => (p', some [k * 1000 + v])
  | (p', none) => (p', none)
def qTsE (f : Nat → Int32) (n p : Nat) (k : Int32) : qRes := if qB f n (p + 1) = 61 then qTs2 f n (p + 2) k else (p + 1, none)
def qTsL (f : Nat → Int32) (n p : Nat) (k : Int32) : qRes := if qB f n (p + 1) = 62 then qTs2 f n (p + 2) (k + 1) else if qB f n (p + 1) = 60 then qTs2 f n (p + 2) k else (p + 1, none)
def qTest (f : Nat → Int32) (n p : Nat) : qRes :=
  if qB f n p = 107 then qTsE f n p 0 else if qB f n p = 116 then qTsE f n p 1 else if qB f n p = 110 then qTsL f n p 2 else if qB f n p = 115 then qTsL f n p 4 else if qB f n p = 104 then qTsL f n p 6 else (p, none)
def qAnd (P : Nat → qRes) (f : Nat → Int32) (n : Nat) : Nat → List Int32 → Nat → qRes
  | 0, _, p => (p, none)
  | k + 1, acc, p => if qB f n p = 38 then (match P (p + 1) with | (p', some l) => qAnd P f n k (acc ++ l ++ [9000]) p' | (p', none) => (p', none)) else (p, some acc)
def qTerm (P : Nat → qRes) (f : Nat → Int32) (n p : Nat) : qRes := match P p with
  | (p', some l) => qAnd P f n 130 l p'
  | (p', none) => (p', none)
def qOrs (P : Nat → qRes) (f : Nat → Int32) (n : Nat) : Nat → List Int32 → Nat → qRes
  | 0, _, p => (p, none)
  | k + 1, acc, p => if qB f n p = 124 then (match qTerm P f n (p + 1) with | (p', some l) => qOrs P f n k (acc ++ l ++ [10000]) p' | (p', none) => (p', none)) else (p, some acc)
def qSome (P : Nat → qRes) (f : Nat → Int32) (n p : Nat) : qRes := match qTerm P f n p with
  | (p', some l) => qOrs P f n 130 l p'
  | (p', none) => (p', none)
def qPart (f : Nat → Int32) (n : Nat) : Nat → Nat → Nat → qRes
  | 0, _, p => (p, none)
  | d + 1, o, p =>
    if qB f n p = 33 then (if 5 ≤ o then (p, none) else (match qPart f n d (o + 1) (p + 1) with | (p', some l) => (p', some (l ++ [8000])) | (p', none) => (p', none)))
    else if qB f n p = 40 then (if 5 ≤ o then (p, none) else (match qSome (qPart f n d (o + 1)) f n (p + 1) with | (p', some l) => (if qB f n p' = 41 then (p' + 1, some l) else (p', none)) | (p', none) => (p', none)))
    else qTest f n p
/-- an E from its first byte on -/
def qE (f : Nat → Int32) (n p : Nat) : qRes := qSome (qPart f n 7 0) f n p
/-- only the bytes that are read count -/
theorem qE_congr {f g : Nat → Int32} {n : Nat} (h : ∀ p, qB f n p = qB g n p) (p : Nat) : qE f n p = qE g n p := by
  have hN : ∀ p, qNum f n p = qNum g n p := fun p => by unfold qNum; rw [h p, h (p + 1), h (p + 2)]
  have h2 : ∀ p k, qTs2 f n p k = qTs2 g n p k := fun p k => by unfold qTs2; rw [hN p]
  have hT : ∀ p, qTest f n p = qTest g n p := fun p => by
    unfold qTest qTsE qTsL
    rw [h p, h (p + 1)]
    simp only [h2]
  have hA : ∀ (P : Nat → qRes) k acc p, qAnd P f n k acc p = qAnd P g n k acc p := by
    intro P k
    induction k with
    | zero => intro acc p; rfl
    | succ k ih => intro acc p; unfold qAnd; rw [h p]; simp only [ih]
  have hM : ∀ (P : Nat → qRes) p, qTerm P f n p = qTerm P g n p := fun P p => by unfold qTerm; simp only [hA]
  have hO : ∀ (P : Nat → qRes) k acc p, qOrs P f n k acc p = qOrs P g n k acc p := by
    intro P k
    induction k with
    | zero => intro acc p; rfl
    | succ k ih => intro acc p; unfold qOrs; rw [h p]; simp only [ih, hM]
  have hS : ∀ (P : Nat → qRes) p, qSome P f n p = qSome P g n p := fun P p => by unfold qSome; simp only [hM, hO]
  have hP : ∀ d o p, qPart f n d o p = qPart g n d o p := by
    intro d
    induction d with
    | zero => intro o p; rfl
    | succ d ih =>
      intro o p
      have e : qPart f n d (o + 1) = qPart g n d (o + 1) := funext (ih (o + 1))
      unfold qPart
      simp only [h, hT, hS, e]
  have e : qPart f n 7 0 = qPart g n 7 0 := funext (hP 7 0)
  unfold qE
  rw [hS, e]
/-- ORDER a: from, clauses, words, numbers; of rank the steps that its text spells -/
def qOr1 (c : Nat → Nat → Int32) (s : Nat → Int32) (a : Nat) : Prop :=
  c (15 + 6 * a) 0 = s (240 + a) ∧ c (15 + 6 * a) 1 = s (1600 + a) ∧ (0 ≤ (s (240 + a)).toInt ∧ (s (240 + a)).toInt ≤ 400) ∧ (0 ≤ (s (1600 + a)).toInt ∧ (s (1600 + a)).toInt ≤ 8)
  ∧ ∃ n : Nat, n ≤ 120 ∧ s (252 + a) = nI n ∧ (∀ i, i < n → 0 ≤ (s (264 + 120 * a + i)).toInt ∧ (s (264 + 120 * a + i)).toInt ≤ 255)
  ∧ ∀ k : Nat, (k : Int) < (s (1600 + a)).toInt → c (15 + 6 * a + 1) k = s (1612 + 8 * a + k) ∧ c (15 + 6 * a + 2) k = s (1700 + 8 * a + k) ∧ (0 ≤ (s (1612 + 8 * a + k)).toInt ∧ (s (1612 + 8 * a + k)).toInt ≤ 5) ∧ (0 ≤ (s (1700 + 8 * a + k)).toInt ∧ (s (1700 + 8 * a + k)).toInt ≤ 999)
    ∧ (s (1612 + 8 * a + k) = 0 → ∃ (p p' b : Nat) (l : List Int32), s (1790 + 8 * a + k) = nI p ∧ p ≤ 120 ∧ qE (fun i => s (264 + 120 * a + i)) n p = (p', some l) ∧ c (15 + 6 * a + 3) k = nI b ∧ c (15 + 6 * a + 4) k = nI (b + l.length) ∧ b + l.length ≤ 120 ∧ ∀ i, i < l.length → c (15 + 6 * a + 5) (b + i) = l.getD i 0)
def qOr (c : Nat → Nat → Int32) (s : Nat → Int32) : Prop := ∀ a : Nat, (a : Int) < (s 2).toInt → qOr1 c s a
def qRl (c : Nat → Nat → Int32) (s p : Nat → Int32) : Prop := qTb c s ∧ qRg s ∧ qTp c s ∧ qDr c s ∧ qCh c s ∧ qPs p s ∧ qGl s ∧ qOr c s
def qVw (w : zWd) (b : Nat) : Nat → Nat → Int32 := fun o => if o < 102 then w (b + o) else fun _ => 0
/-- THE MIX's own rows -/
def qMx (n : Nat) (w : zWd) : Prop := ((w 220 2 = 223 ∧ w 220 3 = 224) ∨ (w 220 2 = 224 ∧ w 220 3 = 223)) ∧ ∃ r : Nat, w 220 7 = nI r ∧ r ≤ 8 * n ∧ ∀ i, i < 2401 → ∃ k, k ≤ r ∧ w 225 i = nI k
def qInv (n : Nat) (w : zWd) : Prop := qRl (qVw w 1) (w 232) (w 205) ∧ w 0 2 = w 231 3 ∧ zB (w 0 2) ∧ (w 0 2 = 1 → qRl (qVw w 103) (w 233) (w 205) ∧ (w 233 0).toInt ≤ (w 232 0).toInt) ∧ qMx n w
theorem qVw_out (w : zWd) {b k : Nat} (j : Nat) (v : Int32) (h : k < b ∨ b + 102 ≤ k) : qVw (zup w k j v) b = qVw w b := by
  funext o
  unfold qVw
  by_cases ho : o < 102
  · rw [if_pos ho, if_pos ho, zup_ne _ _ _ _ _ (by omega)]
  · rw [if_neg ho, if_neg ho]
theorem qVw_in (w : zWd) {b k o : Nat} (j : Nat) (v : Int32) (ho : o < 102) (hk : k = b + o) : qVw (zup w k j v) b = qupc (qVw w b) o j v := by
  subst hk
  funext a
  unfold qVw qupc
  by_cases ha : a < 102
  · rw [if_pos ha]
    by_cases e : a = o
    · subst e; rw [if_pos rfl, zup_self]; simp only [if_pos ha]
    · rw [if_neg e, zup_ne _ _ _ _ _ (by omega)]; simp only [if_pos ha]
  · rw [if_neg ha, if_neg (by omega)]; simp only [if_neg ha]
theorem qVw_at (w : zWd) {b o : Nat} (ho : o < 102) : qVw w b o = w (b + o) := by unfold qVw; rw [if_pos ho]
theorem qup_s (w : zWd) (k j : Nat) (v : Int32) : zup w k j v k = upd (w k) j v := zup_self w k j v
theorem qu_ne (s : Nat → Int32) {j k : Nat} (v : Int32) (h : j ≠ k) : upd s k v j = s j := by unfold upd; rw [if_neg h]
theorem qu_eq (s : Nat → Int32) (k : Nat) (v : Int32) : upd s k v k = v := by unfold upd; rw [if_pos rfl]
theorem qc_ne (c : Nat → Nat → Int32) {o a : Nat} (j : Nat) (v : Int32) (h : a ≠ o) : qupc c o j v a = c a := by unfold qupc; rw [if_neg h]
theorem qc_ne2 (c : Nat → Nat → Int32) {o a i j : Nat} (v : Int32) (h : a ≠ o ∨ i ≠ j) : qupc c o j v a i = c a i := by
  unfold qupc
  by_cases e : a = o
  · rw [if_pos e, qu_ne _ _ (by omega)]
  · rw [if_neg e]
/-- cells that most calls leave -/
def qPt (a : Nat) : Bool := a == 0 || (decide (103 ≤ a) && decide (a ≤ 205)) || a == 220 || a == 225 || a == 233
def qFm (w w2 : zWd) : Prop := (∀ a, qPt a = true → w2 a = w a) ∧ w2 231 3 = w 231 3
theorem qFm.rf (w : zWd) : qFm w w := ⟨fun _ _ => rfl, rfl⟩
theorem qFm.up {w w1 : zWd} (h : qFm w w1) {k : Nat} (j : Nat) (v : Int32) (hk : qPt k = false) (h3 : k ≠ 231 ∨ j ≠ 3) : qFm w (zup w1 k j v) := by
  refine ⟨fun a ha => ?_, ?_⟩
  · rw [zup_ne _ _ _ _ _ (fun e => by rw [e, hk] at ha; cases ha)]; exact h.1 a ha
  · unfold zup
    by_cases e : 231 = k
    · rw [if_pos e, qu_ne _ _ (by omega)]; exact h.2
    · rw [if_neg e]; exact h.2
theorem qFm.tr {w w1 w2 : zWd} (h : qFm w w1) (h2 : qFm w1 w2) : qFm w w2 := ⟨fun a ha => (h2.1 a ha).trans (h.1 a ha), h2.2.trans h.2⟩
theorem qMx.mono {n m : Nat} {w w2 : zWd} (h : qMx n w) (hn : n ≤ m) (e1 : w2 220 = w 220) (e2 : w2 225 = w 225) : qMx m w2 := by
  obtain ⟨h1, r, h2, h3, h4⟩ := h
  unfold qMx
  rw [e1, e2]
  exact ⟨h1, r, h2, by omega, h4⟩
theorem qInv.mono {n m : Nat} {w : zWd} (h : qInv n w) (hn : n ≤ m) : qInv m w := ⟨h.1, h.2.1, h.2.2.1, h.2.2.2.1, h.2.2.2.2.mono hn rfl rfl⟩
theorem qInv.of {n m : Nat} {w w2 : zWd} (h : qInv n w) (hn : n ≤ m) (hf : qFm w w2) (hR : qRl (qVw w2 1) (w2 232) (w 205)) (ht : (w 232 0).toInt ≤ (w2 232 0).toInt) : qInv m w2 := by
  have e0 := hf.1 0 rfl
  have e205 := hf.1 205 rfl
  have e233 := hf.1 233 rfl
  have ev : qVw w2 103 = qVw w 103 := by
    funext o
    unfold qVw
    by_cases ho : o < 102
    · rw [if_pos ho, if_pos ho]
      refine hf.1 (103 + o) ?_
      unfold qPt
      simp
      omega
    · rw [if_neg ho, if_neg ho]
  refine ⟨by rw [e205]; exact hR, by rw [e0, hf.2]; exact h.2.1, by rw [e0]; exact h.2.2.1, fun h2 => ?_, h.2.2.2.2.mono hn (hf.1 220 rfl) (hf.1 225 rfl)⟩
  rw [e0] at h2
  obtain ⟨g1, g2⟩ := h.2.2.2.1 h2
  rw [ev, e205, e233]
  exact ⟨g1, by omega⟩
/-! what a put leaves -/
section QK
variable {c : Nat → Nat → Int32} {s p : Nat → Int32} {j o : Nat} {v : Int32}
theorem qTp.s_ (h : qTp c s) (hj : j ≠ 1 ∧ (j < 140 ∨ 200 ≤ j) ∧ (j < 212 ∨ 236 ≤ j)) : qTp c (upd s j v) := by
  intro t ht
  rw [qu_ne s v (show 1 ≠ j by omega), qu_ne s v (show 140 + t ≠ j by omega), qu_ne s v (show 152 + t ≠ j by omega), qu_ne s v (show 164 + t ≠ j by omega), qu_ne s v (show 188 + t ≠ j by omega), qu_ne s v (show 212 + t ≠ j by omega), qu_ne s v (show 224 + t ≠ j by omega)]
  exact h t ht
theorem qTp.c_ (h : qTp c s) (hj : o ≠ 3 ∧ o ≠ 4 ∧ o ≠ 5 ∧ (o ≠ 1 ∨ j ≠ 2)) : qTp (qupc c o j v) s := by
  intro t ht
  rw [qc_ne c j v (show 3 ≠ o by omega), qc_ne c j v (show 4 ≠ o by omega), qc_ne c j v (show 5 ≠ o by omega), qc_ne2 c v (show 1 ≠ o ∨ 2 ≠ j by omega)]
  exact h t ht
theorem qDr.s_ (h : qDr c s) (hj : j ≠ 1 ∧ (j < 2570 ∨ 2582 ≤ j)) : qDr c (upd s j v) := by
  refine ⟨h.1, fun t ht => ?_⟩
  rw [qu_ne s v (show 1 ≠ j by omega), qu_ne s v (show 2570 + t ≠ j by omega)]
  exact h.2 t ht
theorem qDr.c_ (h : qDr c s) (hj : o ≠ 98 ∧ (o ≠ 93 ∨ j ≠ 5)) : qDr (qupc c o j v) s := by
  unfold qDr
  rw [qc_ne c j v (show 98 ≠ o by omega), qc_ne2 c v (show 93 ≠ o ∨ 5 ≠ j by omega)]
  exact h
theorem qCh.s_ (h : qCh c s) (hj : j < 2590 ∨ 2620 ≤ j) : qCh c (upd s j v) := by
  refine ⟨h.1, fun k hk => ?_⟩
  rw [qu_ne s v (show 2590 + k ≠ j by omega)]
  exact h.2 k hk
theorem qCh.c_ (h : qCh c s) (hj : o ≠ 93 ∨ j ≠ 7) : qCh (qupc c o j v) s := by
  unfold qCh
  rw [qc_ne2 c v (show 93 ≠ o ∨ 7 ≠ j by omega)]
  exact h
theorem qPs.s_ (h : qPs p s) (hj : j ≠ 0 ∧ j ≠ 1 ∧ (j < 200 ∨ 212 ≤ j) ∧ j < 2700) : qPs p (upd s j v) := by
  intro t d q ht hq
  rw [qu_ne s v (show 0 ≠ j by omega), qu_ne s v (show 1 ≠ j by omega), qu_ne s v (show 200 + t ≠ j by omega), qu_ne s v (show 2700 + 1604 * t + 4 * d + q ≠ j by omega), qu_ne s v (show 2700 + 1604 * t + 4 * d + 2 ≠ j by omega)]
  exact h t d q ht hq
theorem qGl.s_ (h : qGl s) (hj : j ≠ 3 ∧ (j < 2016 ∨ 2024 ≤ j)) : qGl (upd s j v) := by
  intro k hk
  rw [qu_ne s v (show 3 ≠ j by omega), qu_ne s v (show 2016 + k ≠ j by omega)]
  exact h k hk
theorem qOr.s_ (h : qOr c s) (h10 : (s 2).toInt ≤ 10) (hj : j ≠ 2 ∧ (j < 240 ∨ 1880 ≤ j)) : qOr c (upd s j v) := by
  intro a ha
  rw [qu_ne s v (show 2 ≠ j by omega)] at ha
  have ha9 : a < 10 := by omega
  obtain ⟨g1, g2, g3, g4, n, hn, g5, g6, g7⟩ := h a ha
  have e1 : ∀ i, 240 ≤ i → i < 1880 → upd s j v i = s i := fun i h1 h2 => qu_ne s v (by omega)
  unfold qOr1
  rw [e1 (240 + a) (by omega) (by omega), e1 (1600 + a) (by omega) (by omega), e1 (252 + a) (by omega) (by omega)]
  refine ⟨g1, g2, g3, g4, n, hn, g5, fun i hi => ?_, fun k hk => ?_⟩
  · rw [e1 (264 + 120 * a + i) (by omega) (by omega)]; exact g6 i hi
  · have hk9 : k < 8 := by omega
    obtain ⟨f1, f2, f3, f4, f5⟩ := g7 k hk
    rw [e1 (1612 + 8 * a + k) (by omega) (by omega), e1 (1700 + 8 * a + k) (by omega) (by omega), e1 (1790 + 8 * a + k) (by omega) (by omega)]
    refine ⟨f1, f2, f3, f4, fun f6 => ?_⟩
    obtain ⟨p0, p', b, l, k1, k2, k3, k4⟩ := f5 f6
    refine ⟨p0, p', b, l, k1, k2, ?_, k4⟩
    have e9 : qE (fun i => upd s j v (264 + 120 * a + i)) n p0 = qE (fun i => s (264 + 120 * a + i)) n p0 := by
      have e8 : ∀ q, qB (fun i => upd s j v (264 + 120 * a + i)) n q = qB (fun i => s (264 + 120 * a + i)) n q := by
        intro q
        unfold qB
        by_cases hq : q < n
        · simp only [if_pos hq]; exact e1 _ (by omega) (by omega)
        · rw [if_neg hq, if_neg hq]
      exact qE_congr e8 p0
    rw [e9]; exact k3
theorem qOr.c_ (h : qOr c s) (h10 : (s 2).toInt ≤ 10) (hj : o < 15 ∨ 81 ≤ o) : qOr (qupc c o j v) s := by
  intro a ha
  have ha9 : a < 10 := by omega
  have h1 := h a ha
  unfold qOr1 at h1 ⊢
  rw [qc_ne c j v (show 15 + 6 * a ≠ o by omega), qc_ne c j v (show 15 + 6 * a + 1 ≠ o by omega), qc_ne c j v (show 15 + 6 * a + 2 ≠ o by omega), qc_ne c j v (show 15 + 6 * a + 3 ≠ o by omega), qc_ne c j v (show 15 + 6 * a + 4 ≠ o by omega), qc_ne c j v (show 15 + 6 * a + 5 ≠ o by omega)]
  exact h1
/-- a plain place of the table gets a number on both sides -/
theorem qRl_put (h : qRl c s p) (b : Nat) {p0 m n i k lo hi : Nat} {a1 a2 : Int} (hb : qBk[b]? = some (o, p0, m, n)) (hi9 : i < n) (hj : j = p0 + i) (hk : k = m + i)
    (hk2 : 4 ≤ k ∧ (k < 140 ∨ 236 ≤ k) ∧ (k < 240 ∨ 1880 ≤ k) ∧ (k < 2016 ∨ 2024 ≤ k) ∧ (k < 2570 ∨ 2620 ≤ k) ∧ k < 2700) (ho : o ≠ 3 ∧ o ≠ 4 ∧ o ≠ 5 ∧ o ≠ 98 ∧ (o < 15 ∨ 81 ≤ o) ∧ (o ≠ 1 ∨ j ≠ 2) ∧ (o ≠ 93 ∨ (j ≠ 5 ∧ j ≠ 7)))
    (hf : qFg lo hi a1 a2 = true) (h1 : lo ≤ k) (h2 : k < hi) (hv : a1 ≤ v.toInt ∧ v.toInt ≤ a2) : qRl (qupc c o j v) (upd s k v) p := by
  obtain ⟨hT, hG, hTp, hD, hC, hP, hL, hO⟩ := h
  have h10 := (qRg_at hG 2 rfl (i := 0) (by decide)).2
  refine ⟨qTb_put hT b hb hi9 hj hk v, qRg_put hG hf h1 h2 hv, (hTp.s_ (by omega)).c_ (by omega), (hD.s_ (by omega)).c_ (by omega), (hC.s_ (by omega)).c_ (by omega), hP.s_ (by omega), hL.s_ (by omega), ?_⟩
  refine (hO.s_ h10 (by omega)).c_ ?_ (by omega)
  rw [qu_ne s v (show 2 ≠ k by omega)]
  exact h10
end QK
theorem qR1 {n : Nat} {w : zWd} (h : qInv n w) : qRg (w 232) := h.1.2.1
theorem qTo {n : Nat} {w : zWd} (h : qInv n w) (b : Nat) {o p m k : Nat} (hb : qBk[b]? = some (o, p, m, k)) (ho : o < 102) {i : Nat} (hi : i < k) : w (1 + o) (p + i) = w 232 (m + i) := by
  have := qTb_at h.1.1 b hb hi
  rwa [qVw_at w ho] at this
