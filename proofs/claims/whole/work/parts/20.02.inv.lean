/-! THE TWO STATES SIDE BY SIDE. c: the class's World (cell's place behind World's, place in the cell); s: the model's array; p: the class's past -/
/-- places that hold the same: (cell, first place, first index in s, how many) -/
def qBk : List (Nat × Nat × Nat × Nat) := [(0, 0, 0, 1), (1, 1, 1, 1), (13, 0, 2, 1), (81, 0, 3, 1), (81, 8, 4, 1), (93, 0, 5, 1), (11, 0, 6, 1), (93, 9, 7, 1), (2, 0, 20, 120), (6, 0, 200, 12), (7, 0, 212, 12), (8, 0, 224, 12), (12, 0, 1880, 120), (82, 0, 2000, 8), (83, 0, 2008, 8), (84, 0, 2016, 8), (85, 0, 2024, 8), (86, 0, 2032, 8), (87, 0, 2040, 8), (88, 0, 2048, 160), (89, 0, 2210, 30), (90, 0, 2240, 30), (91, 0, 2270, 30), (92, 0, 2300, 30), (94, 0, 2330, 60), (95, 0, 2390, 60), (96, 0, 2450, 60), (97, 0, 2510, 60), (99, 0, 2620, 30), (100, 0, 2650, 6), (101, 0, 2660, 6)]
def qTb (c : Nat → Nat → Int32) (s : Nat → Int32) : Prop := ∀ q ∈ qBk, ∀ i, i < q.2.2.2 → c q.1 (q.2.1 + i) = s (q.2.2.1 + i)
/-- ranges: (first index in s, how many, least, greatest) -/
def qRb : List (Nat × Nat × Int × Int) := [(0, 1, 0, 400), (1, 1, 0, 12), (2, 1, 0, 10), (3, 1, 0, 8), (4, 1, 0, 30), (5, 1, 0, 60), (6, 1, 0, 120), (7, 1, 0, 6), (20, 30, 0, 1500), (50, 30, 0, 9999), (80, 30, 0, 99), (110, 30, 0, 999), (140, 12, 0, 2), (152, 12, 0, 29), (200, 12, 0, 400), (212, 12, 0, 99), (1880, 120, 0, 255), (2000, 8, 0, 5), (2008, 8, 0, 11), (2016, 8, 0, 4), (2024, 8, 0, 1500), (2032, 8, 0, 400), (2040, 8, 0, 20), (2048, 160, 0, 400), (2210, 30, 0, 7), (2240, 30, 0, 9), (2270, 30, 0, 9), (2300, 30, 0, 400), (2330, 60, 0, 11), (2390, 60, 0, 400), (2450, 60, 0, 9999), (2510, 60, 0, 2000), (2590, 30, 0, 1), (2620, 30, -999, 999), (2650, 6, 0, 29), (2660, 6, -99, 99)]
def qRg (s : Nat → Int32) : Prop := ∀ q ∈ qRb, ∀ i, i < q.2.1 → q.2.2.1 ≤ (s (q.1 + i)).toInt ∧ (s (q.1 + i)).toInt ≤ q.2.2.2
def qBit (x : Int32) (t : Nat) : Int32 := (x >>> (nI t &&& 31)) &&& 1
/-- how many of the first k bits are set -/
def qCnt (x : Int32) : Nat → Int32
  | 0 => 0
  | k + 1 => qCnt x k + qBit x k
/-- TAPS, as many as there are; nothing stands in the pipes of those that aren't -/
def qTp (c : Nat → Nat → Int32) (s : Nat → Int32) : Prop := ∀ t : Nat, t < 12 → ((t : Int) < (s 1).toInt → c 3 t = s (140 + t) ∧ c 4 t = s (152 + t) ∧ c 5 t = s (164 + t) ∧ s (188 + t) = qBit (c 1 2) t ∧ (s (140 + t) ≠ 0 → 1 ≤ (s (164 + t)).toInt ∧ (s (164 + t)).toInt ≤ 500))
  ∧ ((s 1).toInt ≤ t → qBit (c 1 2) t = 0 ∧ s (212 + t) = 0 ∧ s (224 + t) = 0)
/-- drops -/
def qDr (c : Nat → Nat → Int32) (s : Nat → Int32) : Prop := (0 ≤ (c 93 5).toInt ∧ (c 93 5).toInt < 4096 ∧ (qCnt (c 93 5) 12).toInt ≤ 4) ∧ ∀ t : Nat, t < 12 → (qBit (c 93 5) t = 1 ∧ s (2570 + t) = c 98 t ∧ 0 ≤ (s (2570 + t)).toInt ∧ (s (2570 + t)).toInt ≤ 999 ∧ (t : Int) < (s 1).toInt) ∨ (qBit (c 93 5) t = 0 ∧ s (2570 + t) = -1)
/-- changes -/
def qCh (c : Nat → Nat → Int32) (s : Nat → Int32) : Prop := (0 ≤ (c 93 7).toInt ∧ (c 93 7).toInt < 2 ^ 30 ∧ (qCnt (c 93 7) 30).toInt ≤ 6) ∧ ∀ k : Nat, k < 30 → s (2590 + k) = qBit (c 93 7) k
/-- what TAPS gave -/
def qPs (p s : Nat → Int32) : Prop := ∀ t d q : Nat, t < 12 → q < 4 → (t : Int) < (s 1).toInt → (s (200 + t)).toInt ≤ d → (d : Int) < (s 0).toInt → p ((d * 12 + t) * 4 + q) = s (2700 + 1604 * t + 4 * d + q) ∧ 0 ≤ (s (2700 + 1604 * t + 4 * d + 2)).toInt
/-- takers have gallons -/
def qGl (s : Nat → Int32) : Prop := ∀ k : Nat, k < 8 → (k : Int) < (s 3).toInt → 1 ≤ (s (2016 + k)).toInt
theorem qTb_at {c : Nat → Nat → Int32} {s : Nat → Int32} (h : qTb c s) (b : Nat) {o p m n : Nat} (hb : qBk[b]? = some (o, p, m, n)) {i : Nat} (hi : i < n) : c o (p + i) = s (m + i) := h (o, p, m, n) (List.mem_of_getElem? hb) i hi
theorem qRg_at {s : Nat → Int32} (h : qRg s) (b : Nat) {m n : Nat} {lo hi : Int} (hb : qRb[b]? = some (m, n, lo, hi)) {i : Nat} (hi9 : i < n) : lo ≤ (s (m + i)).toInt ∧ (s (m + i)).toInt ≤ hi := h (m, n, lo, hi) (List.mem_of_getElem? hb) i hi9
/-- a number with its range, as a natural -/
theorem qNat {x : Int32} {lo hi : Int} (h : lo ≤ x.toInt ∧ x.toInt ≤ hi) (h0 : 0 ≤ lo) : ∃ n : Nat, x = nI n ∧ (n : Int) = x.toInt ∧ (n : Int) ≤ hi ∧ n < 2 ^ 31 := by
  have h1 := x.toInt_lt
  have hx : ¬ x < 0 := by rw [zlt]; have : (0 : Int32).toInt = 0 := rfl; omega
  obtain ⟨j, hj, e⟩ := nI_of hx
  have e2 : x.toInt = j := by rw [e, nI_toInt hj]
  exact ⟨j, e, e2.symm, by omega, hj⟩
def qupc (c : Nat → Nat → Int32) (o j : Nat) (v : Int32) : Nat → Nat → Int32 := fun a => if a = o then upd (c a) j v else c a
/-- two places of the table are one only if they are one -/
def qAp (a b : Nat × Nat × Nat × Nat) : Bool := a == b || ((a.2.2.1 + a.2.2.2 ≤ b.2.2.1 || b.2.2.1 + b.2.2.2 ≤ a.2.2.1) && (a.1 != b.1 || a.2.1 + a.2.2.2 ≤ b.2.1 || b.2.1 + b.2.2.2 ≤ a.2.1))
theorem qAp_all : qBk.all (fun a => qBk.all (fun b => qAp a b)) = true := by decide +kernel
theorem qAp_of {a b : Nat × Nat × Nat × Nat} (ha : a ∈ qBk) (hb : b ∈ qBk) : a = b ∨ ((a.2.2.1 + a.2.2.2 ≤ b.2.2.1 ∨ b.2.2.1 + b.2.2.2 ≤ a.2.2.1) ∧ (a.1 ≠ b.1 ∨ a.2.1 + a.2.2.2 ≤ b.2.1 ∨ b.2.1 + b.2.2.2 ≤ a.2.1)) := by
  have h := List.all_eq_true.mp (List.all_eq_true.mp qAp_all a ha) b hb
  simp only [qAp, Bool.or_eq_true, Bool.and_eq_true, beq_iff_eq, bne_iff_ne, decide_eq_true_eq] at h
  rcases h with h | ⟨h1, h2⟩
  · exact Or.inl h
  · refine Or.inr ⟨h1, ?_⟩
    rcases h2 with (h2 | h2) | h2
    · exact Or.inl h2
    · exact Or.inr (Or.inl h2)
    · exact Or.inr (Or.inr h2)
/-- the same number is put on both sides -/
theorem qTb_put {c : Nat → Nat → Int32} {s : Nat → Int32} (h : qTb c s) (b : Nat) {o p m n : Nat} (hb : qBk[b]? = some (o, p, m, n)) {i j k : Nat} (hi : i < n) (hj : j = p + i) (hk : k = m + i) (v : Int32) : qTb (qupc c o j v) (upd s k v) := by
  subst hj
  subst hk
  have hm := List.mem_of_getElem? hb
  intro q hq l hl
  rcases qAp_of hm hq with rfl | ⟨h1, h2⟩
  · show (if o = o then upd (c o) (p + i) v else c o) (p + l) = upd s (m + i) v (m + l)
    rw [if_pos rfl]
    unfold upd
    by_cases e : l = i
    · subst e; simp
    · rw [if_neg (by omega), if_neg (by omega)]; exact h (o, p, m, n) hm l hl
  · have e1 : upd s (m + i) v (q.2.2.1 + l) = s (q.2.2.1 + l) := by
      unfold upd; rw [if_neg]; simp only at h1; omega
    rw [e1]
    have e2 : qupc c o (p + i) v q.1 (q.2.1 + l) = c q.1 (q.2.1 + l) := by
      unfold qupc
      by_cases e : q.1 = o
      · rw [if_pos e]
        unfold upd
        rw [if_neg]
        simp only at h2
        rcases h2 with h2 | h2
        · exact absurd e.symm h2
        · omega
      · rw [if_neg e]
    rw [e2]
    exact h q hq l hl
/-- a number is put beside the table, in s -/
def qFr (lo hi : Nat) : Bool := qBk.all (fun b => b.2.2.1 + b.2.2.2 ≤ lo || hi ≤ b.2.2.1)
theorem qTb_s {c : Nat → Nat → Int32} {s : Nat → Int32} (h : qTb c s) {lo hi j : Nat} (hf : qFr lo hi = true) (h1 : lo ≤ j) (h2 : j < hi) (v : Int32) : qTb c (upd s j v) := by
  intro q hq l hl
  have h3 := List.all_eq_true.mp hf q hq
  simp only [Bool.or_eq_true, decide_eq_true_eq] at h3
  have e1 : upd s j v (q.2.2.1 + l) = s (q.2.2.1 + l) := by unfold upd; rw [if_neg]; omega
  rw [e1]
  exact h q hq l hl
/-- .. in c -/
def qFc (o lo hi : Nat) : Bool := qBk.all (fun b => b.1 != o || b.2.1 + b.2.2.2 ≤ lo || hi ≤ b.2.1)
theorem qTb_c {c : Nat → Nat → Int32} {s : Nat → Int32} (h : qTb c s) {o lo hi j : Nat} (hf : qFc o lo hi = true) (h1 : lo ≤ j) (h2 : j < hi) (v : Int32) : qTb (qupc c o j v) s := by
  intro q hq l hl
  have h3 := List.all_eq_true.mp hf q hq
  simp only [Bool.or_eq_true, bne_iff_ne, decide_eq_true_eq] at h3
  have e1 : qupc c o j v q.1 (q.2.1 + l) = c q.1 (q.2.1 + l) := by
    unfold qupc
    by_cases e : q.1 = o
    · rw [if_pos e]
      unfold upd
      rw [if_neg]
      omega
    · rw [if_neg e]
  rw [e1]
  exact h q hq l hl
/-- ranges: a number is put -/
def qFg (lo hi : Nat) (a b : Int) : Bool := qRb.all (fun q => q.1 + q.2.1 ≤ lo || hi ≤ q.1 || (q.2.2.1 ≤ a && b ≤ q.2.2.2))
theorem qRg_put {s : Nat → Int32} (h : qRg s) {lo hi j : Nat} {a b : Int} (hf : qFg lo hi a b = true) (h1 : lo ≤ j) (h2 : j < hi) {v : Int32} (hv : a ≤ v.toInt ∧ v.toInt ≤ b) : qRg (upd s j v) := by
  intro q hq l hl
  have h3 := List.all_eq_true.mp hf q hq
  simp only [Bool.or_eq_true, Bool.and_eq_true, decide_eq_true_eq] at h3
  unfold upd
  by_cases e : q.1 + l = j
  · rw [if_pos e]; omega
  · rw [if_neg e]; exact h q hq l hl
/-- .. no range speaks of it -/
def qFh (lo hi : Nat) : Bool := qRb.all (fun q => q.1 + q.2.1 ≤ lo || hi ≤ q.1)
theorem qRg_s {s : Nat → Int32} (h : qRg s) {lo hi j : Nat} (hf : qFh lo hi = true) (h1 : lo ≤ j) (h2 : j < hi) (v : Int32) : qRg (upd s j v) := by
  intro q hq l hl
  have h3 := List.all_eq_true.mp hf q hq
  simp only [Bool.or_eq_true, decide_eq_true_eq] at h3
  unfold upd
  rw [if_neg (by omega)]
  exact h q hq l hl
