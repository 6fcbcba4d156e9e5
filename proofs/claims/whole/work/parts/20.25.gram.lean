/-- an answer of the grammar: its steps are so, and it stands further on -/
def qGd (n h p : Nat) (r : qRes) : Prop := ∀ l, r.2 = some l → qOk l h ∧ p < r.1 ∧ r.1 ≤ n
theorem qGd_and {P : Nat → qRes} {f : Nat → Int32} {n h : Nat} (hP : ∀ p, qGd n h p (P p)) : ∀ k acc p p0, p0 < p → p ≤ n → qOk acc (h + 1) → qGd n (h + 1) p0 (qAnd P f n k acc p) := by
  intro k
  induction k with
  | zero => intro acc p p0 _ _ _ l hl; exact absurd hl (by simp [qAnd])
  | succ k ih =>
    intro acc p p0 hp hn ha
    unfold qAnd
    by_cases e : qB f n p = 38
    · rw [if_pos e]
      match e2 : P (p + 1) with
      | (p', some l) =>
        have := hP (p + 1) l (by rw [e2])
        rw [e2] at this
        exact ih _ p' p0 (by omega) this.2.2 (qOk_a ha this.1 (by omega)).1
      | (p', none) => intro l hl; simp at hl
    · rw [if_neg e]
      intro l hl
      simp only [Option.some.injEq] at hl
      subst hl
      exact ⟨ha, hp, hn⟩
theorem qGd_term {P : Nat → qRes} {f : Nat → Int32} {n h : Nat} (hP : ∀ p, qGd n h p (P p)) (p : Nat) : qGd n (h + 1) p (qTerm P f n p) := by
  unfold qTerm
  match e : P p with
  | (p', some l) =>
    have := hP p l (by rw [e])
    rw [e] at this
    exact qGd_and hP 130 l p' p this.2.1 this.2.2 (this.1.up (by omega))
  | (p', none) => intro l hl; simp at hl
theorem qGd_ors {P : Nat → qRes} {f : Nat → Int32} {n h : Nat} (hP : ∀ p, qGd n h p (P p)) : ∀ k acc p p0, p0 < p → p ≤ n → qOk acc (h + 2) → qGd n (h + 2) p0 (qOrs P f n k acc p) := by
  intro k
  induction k with
  | zero => intro acc p p0 _ _ _ l hl; exact absurd hl (by simp [qOrs])
  | succ k ih =>
    intro acc p p0 hp hn ha
    unfold qOrs
    by_cases e : qB f n p = 124
    · rw [if_pos e]
      match e2 : qTerm P f n (p + 1) with
      | (p', some l) =>
        have := qGd_term hP (p + 1) l (by rw [e2])
        rw [e2] at this
        exact ih _ p' p0 (by omega) this.2.2 (qOk_o ha this.1 (by omega)).1
      | (p', none) => intro l hl; simp at hl
    · rw [if_neg e]
      intro l hl
      simp only [Option.some.injEq] at hl
      subst hl
      exact ⟨ha, hp, hn⟩
theorem qGd_some {P : Nat → qRes} {f : Nat → Int32} {n h : Nat} (hP : ∀ p, qGd n h p (P p)) (p : Nat) : qGd n (h + 2) p (qSome P f n p) := by
  unfold qSome
  match e : qTerm P f n p with
  | (p', some l) =>
    have := qGd_term hP p l (by rw [e])
    rw [e] at this
    exact qGd_ors hP 130 l p' p this.2.1 this.2.2 (this.1.up (by omega))
  | (p', none) => intro l hl; simp at hl
theorem qB_in {f : Nat → Int32} {n p : Nat} {x : Int32} (h : qB f n p = x) (hx : x ≠ -1) : p < n := by
  unfold qB at h
  by_cases g : p < n
  · exact g
  · rw [if_neg g] at h; exact absurd h.symm hx
theorem qGd_part {f : Nat → Int32} {n : Nat} : ∀ d o p, qGd n (1 + 2 * d) p (qPart f n d o p) := by
  intro d
  induction d with
  | zero => intro o p l hl; exact absurd hl (by simp [qPart])
  | succ d ih =>
    intro o p
    unfold qPart
    by_cases c1 : qB f n p = 33
    · rw [if_pos c1]
      by_cases c2 : 5 ≤ o
      · rw [if_pos c2]; intro l hl; simp at hl
      rw [if_neg c2]
      match e : qPart f n d (o + 1) (p + 1) with
      | (p', some l) =>
        have := ih (o + 1) (p + 1) l (by rw [e])
        rw [e] at this
        intro l2 hl
        simp only [Option.some.injEq] at hl
        subst hl
        exact ⟨(qOk_n (this.1.up (show 1 + 2 * d ≤ 1 + 2 * (d + 1) by omega)) (by omega)).1, by have := this.2.1; simp only at this ⊢; omega, this.2.2⟩
      | (p', none) => intro l hl; simp at hl
    rw [if_neg c1]
    by_cases c3 : qB f n p = 40
    · rw [if_pos c3]
      by_cases c2 : 5 ≤ o
      · rw [if_pos c2]; intro l hl; simp at hl
      rw [if_neg c2]
      match e : qSome (qPart f n d (o + 1)) f n (p + 1) with
      | (p', some l) =>
        have := qGd_some (f := f) (ih (o + 1)) (p + 1) l (by rw [e])
        rw [e] at this
        simp only at this ⊢
        by_cases c4 : qB f n p' = 41
        · rw [if_pos c4]
          intro l2 hl
          simp only [Option.some.injEq] at hl
          subst hl
          have hq := qB_in c4 (by decide)
          exact ⟨this.1.up (by omega), by simp only; omega, by simp only; omega⟩
        · rw [if_neg c4]; intro l2 hl; simp at hl
      | (p', none) => intro l hl; simp at hl
    rw [if_neg c3]
    intro l hl
    have hl2 : qTest f n p = ((qTest f n p).1, some l) := by rw [← hl]
    obtain ⟨⟨k, m, hk, hm, rfl⟩, g2, g3⟩ := qTest_ok hl2
    exact ⟨(qTest_ok2 hk hm).up (by omega), g2, g3⟩
/-- an E's steps are so; their height is 17 at the most -/
theorem qGd_E {f : Nat → Int32} {n p p' : Nat} {l : List Int32} (h : qE f n p = (p', some l)) : qOk l 17 ∧ p < p' ∧ p' ≤ n := by
  have := qGd_some (f := f) (n := n) (h := 15) (fun q => qGd_part 7 0 q) p l (by show (qE f n p).2 = _; rw [h])
  rw [show qSome (qPart f n 7 0) f n p = qE f n p from rfl, h] at this
  exact this
