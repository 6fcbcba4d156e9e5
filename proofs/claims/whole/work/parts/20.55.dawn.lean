section YSt
variable {kd tn sh : Nat → Int32} {cl : Nat → Nat} {T : Nat}
/-- behind i days -/
def ySc (kd tn sh : Nat → Int32) (cl : Nat → Nat) (T : Nat) (C : Nat → Int32) : Nat → Nat → Int32
  | 0 => C
  | i + 1 => yDy kd tn sh cl T (ySc kd tn sh cl T C i)
def ySs (kd tn sh : Nat → Int32) (cl : Nat → Nat) (T : Nat) (C S : Nat → Int32) : Nat → Nat → Int32
  | 0 => S
  | i + 1 => fun t => if t < T then ySs kd tn sh cl T C S i t + yI (yVt kd tn sh cl (ySc kd tn sh cl T C i) t) (yHt kd tn sh cl (ySc kd tn sh cl T C i) t) else ySs kd tn sh cl T C S i t
def ySf (kd tn sh : Nat → Int32) (cl : Nat → Nat) (T : Nat) (C S ln : Nat → Int32) (i t q : Nat) : Int32 := yF (yVt kd tn sh cl (ySc kd tn sh cl T C i) t) (yHt kd tn sh cl (ySc kd tn sh cl T C i) t) (ySs kd tn sh cl T C S i t) (ln t) q
theorem yRg_D {C : Nat → Int32} (hP : yTp kd tn cl T) (h : yRg C) : yRg (yDy kd tn sh cl T C) := by
  have h2 := yRg_2 (sh := sh) hP (yRg_1 h) T (Nat.le_refl T)
  unfold yDy
  generalize yC2 kd tn sh cl (yC1 C) T = E at h2
  intro j hj
  obtain ⟨g1, g2, g3, g4⟩ := h2 j hj
  have q1 := yGs_eq (C := E) (m := 8) (f := 0) (by omega) hj (fun j hj => by rw [Nat.zero_add]; have := (h2 j hj).1; omega)
  have q2 := yGs_eq (C := E) (m := 4) (f := 30) (by omega) hj (fun j hj => (h2 j hj).2.1)
  have r1 := yGs_rg (C := E) (m := 8) (f := 0) (M := 1500) (by omega) hj (by omega) (fun j hj => by rw [Nat.zero_add]; exact (h2 j hj).1)
  have r2 := yGs_rg (C := E) (m := 4) (f := 30) (M := 9999) (by omega) hj (by omega) (fun j hj => (h2 j hj).2.1)
  rw [q1, Nat.zero_add] at r1
  rw [q2] at r2
  unfold yD
  rw [if_pos hj, if_neg (show ¬ 30 + j < 30 by omega), if_pos (show 30 + j < 60 by omega), if_neg (show ¬ 60 + j < 30 by omega), if_neg (show ¬ 60 + j < 60 by omega), if_neg (show ¬ 90 + j < 30 by omega), if_neg (show ¬ 90 + j < 60 by omega), Nat.add_sub_cancel_left]
  exact ⟨r1, r2, g3, g4⟩
theorem yRg_S {C : Nat → Int32} (hP : yTp kd tn cl T) (h : yRg C) : ∀ i, yRg (ySc kd tn sh cl T C i)
  | 0 => h
  | i + 1 => yRg_D hP (yRg_S hP h i)
theorem yDy_hi {C : Nat → Int32} (hP : yTp kd tn cl T) {j : Nat} (hj : 60 ≤ j) : yDy kd tn sh cl T C j = C j := by
  have : ∀ m, m ≤ T → yC2 kd tn sh cl (yC1 C) m j = C j := fun m => by
    induction m with
    | zero => intro _; show yC1 C j = C j; unfold yC1; rw [if_neg (by omega), if_neg (by omega)]
    | succ m ih =>
      intro hm
      show upd (yC2 kd tn sh cl (yC1 C) m) (30 + cl m) _ j = _
      rw [qu_ne _ _ (by have := (hP m (by omega)).1; omega)]
      exact ih (by omega)
  unfold yDy yD
  rw [if_neg (by omega), if_neg (by omega)]
  exact this T (Nat.le_refl T)
/-- days of a ground, by the class -/
theorem s_days11 {v0 : Nat} {w : zWd} (hT : T ≤ 12) (hP : yTp kd tn cl T) (hR : yRg (w (v0 + 1))) (e1 : w v0 1 = nI T) (k0 : ∀ t, t < T → w (v0 + 2) t = kd t) (k1 : ∀ t, t < T → w (v0 + 3) t = nI (cl t)) (k2 : ∀ t, t < T → w (v0 + 4) t = tn t) (k3 : ∀ t, t < T → qBit (w v0 2) t = sh t) {u : zWd} {i : Nat} (g0 : ∀ a, v0 ≤ a → a < v0 + 7 → a ≠ v0 + 1 → u a = w a) (g1 : u (v0 + 1) = ySc kd tn sh cl T (w (v0 + 1)) i) (g7 : u (v0 + 7) = ySs kd tn sh cl T (w (v0 + 1)) (w (v0 + 7)) i) :
    ∃ u', mX0_passDay v0 u = some ((), u') ∧ (∀ a, a ≠ v0 + 1 → a ≠ v0 + 7 → a ≠ v0 + 8 → a ≠ v0 + 9 → u' a = u a) ∧ u' (v0 + 1) = ySc kd tn sh cl T (w (v0 + 1)) (i + 1) ∧ u' (v0 + 7) = ySs kd tn sh cl T (w (v0 + 1)) (w (v0 + 7)) (i + 1) ∧ ∀ t q, t < T → q < 4 → u' (v0 + 8) (4 * t + q) = ySf kd tn sh cl T (w (v0 + 1)) (w (v0 + 7)) (w (v0 + 6)) i t q := by
  obtain ⟨u', m1, m2, m3, m4, m5⟩ := s_day11 (v0 := v0) (w := u) (kd := kd) (tn := tn) (sh := sh) (cl := cl) hT hP (by rw [g1]; exact yRg_S hP hR i) (by rw [g0 v0 (by omega) (by omega) (by omega)]; exact e1) (fun t ht => by rw [g0 _ (by omega) (by omega) (by omega)]; exact k0 t ht) (fun t ht => by rw [g0 _ (by omega) (by omega) (by omega)]; exact k1 t ht) (fun t ht => by rw [g0 _ (by omega) (by omega) (by omega)]; exact k2 t ht) (fun t ht => by rw [g0 _ (by omega) (by omega) (by omega)]; exact k3 t ht)
  refine ⟨u', m1, m2, by rw [m3, g1]; rfl, funext (fun t => ?_), fun t q ht hq => ?_⟩
  · rw [m4 t, g1, g7]; rfl
  · rw [m5 t q ht hq, g1, g7, g0 (v0 + 6) (by omega) (by omega) (by omega)]; rfl
/-- .. by the model -/
theorem s_days12 {w : zWd} {C S ln : Nat → Int32} (hT : T ≤ 12) (hP : yTp kd tn cl T) (hR : yRg C) (e1 : w 232 1 = nI T) (k0 : ∀ t, t < T → w 232 (140 + t) = kd t) (k1 : ∀ t, t < T → w 232 (152 + t) = nI (cl t)) (k2 : ∀ t, t < T → w 232 (164 + t) = tn t) (k3 : ∀ t, t < T → w 232 (188 + t) = sh t) (k4 : ∀ t, t < T → w 232 (212 + t) = ln t) (hs : ∀ t, t < T → sh t = 0 ∨ sh t = 1) {u : zWd} {i : Nat} (g0 : ∀ j, j < 20 ∨ 140 ≤ j → j < 224 → j ≠ 0 → u 232 j = w 232 j) (g1 : ∀ j, j < 120 → u 232 (20 + j) = ySc kd tn sh cl T C i j) (g7 : ∀ t, t < T → u 232 (224 + t) = ySs kd tn sh cl T C S i t) :
    ∃ u', mX12_flows 231 u = some ((), u') ∧ (∀ a, a ≠ 232 → a < 234 ∨ 239 < a → u' a = u a) ∧ (∀ j, j < 20 ∨ 140 ≤ j → j < 224 ∨ 224 + T ≤ j → u' 232 j = u 232 j) ∧ (∀ j, j < 120 → u' 232 (20 + j) = ySc kd tn sh cl T C (i + 1) j) ∧ (∀ t, t < T → u' 232 (224 + t) = ySs kd tn sh cl T C S (i + 1) t) ∧ ∀ t q, t < T → q < 4 → u' (234 + q) t = ySf kd tn sh cl T C S ln i t q := by
  obtain ⟨u', m1, m2, m3, m4, m5, m6⟩ := s_day12 (w := u) (C := ySc kd tn sh cl T C i) (kd := kd) (tn := tn) (sh := sh) (cl := cl) hT hP (yRg_S hP hR i) (by rw [g0 1 (by omega) (by omega) (by omega)]; exact e1) g1 (fun t ht => by rw [g0 _ (by omega) (by omega) (by omega)]; exact k0 t ht) (fun t ht => by rw [g0 _ (by omega) (by omega) (by omega)]; exact k1 t ht) (fun t ht => by rw [g0 _ (by omega) (by omega) (by omega)]; exact k2 t ht) (fun t ht => by rw [g0 _ (by omega) (by omega) (by omega)]; exact k3 t ht) hs
  refine ⟨u', m1, m2, fun j h1 h2 => m4 j (by omega) h2, fun j hj => ?_, fun t ht => ?_, fun t q ht hq => ?_⟩
  · by_cases c : j < 60
    · exact m3 j c
    · rw [m4 _ (by omega) (by omega), g1 j hj]
      exact (yDy_hi hP (by omega)).symm
  · rw [m5 t ht, g7 t ht]
    show _ = if t < T then _ else _
    rw [if_pos ht]
  · rw [m6 t q ht hq, g7 t ht, g0 _ (by omega) (by omega) (by omega), k4 t ht]; rfl
end YSt
/-- what a ground has to be for days: out of both sides -/
theorem q_gr {n : Nat} {w : zWd} (h : qInv n w) {T : Nat} (hT : T ≤ 12) (e2 : w 232 1 = nI T) : ∃ cl : Nat → Nat, yTp (w 4) (w 6) cl T ∧ yRg (w 3) ∧ (∀ t, t < T → w 5 t = nI (cl t)) ∧ (∀ t, t < T → qBit (w 2 2) t = 0 ∨ qBit (w 2 2) t = 1) ∧ (∀ j, j < 120 → w 232 (20 + j) = w 3 j) ∧ (∀ t, t < T → w 232 (140 + t) = w 4 t ∧ w 232 (152 + t) = w 5 t ∧ w 232 (164 + t) = w 6 t ∧ w 232 (188 + t) = qBit (w 2 2) t) ∧ (∀ t, t < 12 → w 232 (212 + t) = w 8 t ∧ w 232 (224 + t) = w 9 t) := by
  have e2i : (w 232 1).toInt = T := by rw [e2, nIi (by omega)]
  have hkd : ∀ t, t < T → w 4 t = w 232 (140 + t) ∧ w 5 t = w 232 (152 + t) ∧ w 6 t = w 232 (164 + t) ∧ w 232 (188 + t) = qBit (w 2 2) t ∧ (w 232 (140 + t) ≠ 0 → 1 ≤ (w 232 (164 + t)).toInt ∧ (w 232 (164 + t)).toInt ≤ 500) := fun t ht => by
    obtain ⟨q1, q2, q3, q4, q5⟩ := (h.1.2.2.1 t (by omega)).1 (by rw [e2i]; omega)
    rw [qVw_at w (by decide)] at q1 q2 q3 q4
    exact ⟨q1, q2, q3, q4, q5⟩
  have hcx : ∀ t, ∃ c : Nat, t < T → c < 30 ∧ w 5 t = nI c := by
    intro t
    by_cases ht : t < T
    · obtain ⟨c, k1, k2, k3, _⟩ := qNat (qRg_at (qR1 h) 13 rfl (i := t) (by omega)) (Int.le_refl 0)
      exact ⟨c, fun _ => ⟨by omega, by rw [(hkd t ht).2.1]; exact k1⟩⟩
    · exact ⟨0, fun q => absurd q ht⟩
  obtain ⟨cl, hcl⟩ := Classical.axiomOfChoice hcx
  have h3 : ∀ j, j < 120 → w 232 (20 + j) = w 3 j := fun j hj => by
    have := qTo h 8 rfl (by decide) (i := j) hj
    rw [Nat.zero_add] at this
    exact this.symm
  refine ⟨cl, fun t ht => ⟨(hcl t ht).1, fun q => ?_⟩, fun j hj => ?_, fun t ht => (hcl t ht).2, fun t ht => qBit01 _ (by omega), h3, fun t ht => ⟨(hkd t ht).1.symm, (hkd t ht).2.1.symm, (hkd t ht).2.2.1.symm, (hkd t ht).2.2.2.1⟩, fun t ht => ⟨?_, ?_⟩⟩
  · rw [(hkd t ht).2.2.1]
    exact (hkd t ht).2.2.2.2 (by rw [← (hkd t ht).1]; exact q)
  · have r1 := qRg_at (qR1 h) 8 rfl (i := j) hj
    have r2 := qRg_at (qR1 h) 9 rfl (i := j) hj
    have r3 := qRg_at (qR1 h) 10 rfl (i := j) hj
    have r4 := qRg_at (qR1 h) 11 rfl (i := j) hj
    rw [← h3 j (by omega), ← h3 (30 + j) (by omega), ← h3 (60 + j) (by omega), ← h3 (90 + j) (by omega), show 20 + (30 + j) = 50 + j by omega, show 20 + (60 + j) = 80 + j by omega, show 20 + (90 + j) = 110 + j by omega]
    exact ⟨r1, r2, r3, r4⟩
  · have := qTo h 10 rfl (by decide) (i := t) ht
    rw [Nat.zero_add] at this
    exact this.symm
  · have := qTo h 11 rfl (by decide) (i := t) ht
    rw [Nat.zero_add] at this
    exact this.symm
