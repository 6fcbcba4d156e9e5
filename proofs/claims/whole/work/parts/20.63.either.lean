/-- an answer of the class beside one of the grammar -/
def qRo (w0 : zWd) (O b : Nat) (u' : zWd) (L : List Int32) (r : qRes) : Prop := match r with
  | (p', some l) => qRw w0 O u' p' 0 (b + (L ++ l).length) ∧ qSt w0 O b u' (L ++ l)
  | (p', none) => ∃ s', qRw w0 O u' p' 1 s'
/-! an E has fewer steps than bytes -/
def qLg (p : Nat) (r : qRes) : Prop := ∀ l, r.2 = some l → l.length + p < r.1
section LG
variable {P : Nat → qRes} {f : Nat → Int32} {n : Nat}
theorem qLg_and (hP : ∀ p, qLg p (P p)) : ∀ k acc p p0, acc.length + p0 < p → qLg p0 (qAnd P f n k acc p)
  | 0, acc, p, p0, _ => fun l hl => absurd hl (by simp [qAnd])
  | k + 1, acc, p, p0, h => by
    unfold qAnd
    by_cases e : qB f n p = 38
    · rw [if_pos e]
      match e2 : P (p + 1) with
      | (p', some l) =>
        have := hP (p + 1) l (by rw [e2])
        rw [e2] at this
        simp only at this ⊢
        exact qLg_and hP k _ p' p0 (by simp only [List.length_append, List.length_cons, List.length_nil]; omega)
      | (p', none) => intro l hl; simp at hl
    · rw [if_neg e]
      intro l hl
      simp only [Option.some.injEq] at hl
      subst hl
      exact h
theorem qLg_term (hP : ∀ p, qLg p (P p)) (p : Nat) : qLg p (qTerm P f n p) := by
  unfold qTerm
  match e : P p with
  | (p', some l) =>
    have := hP p l (by rw [e])
    rw [e] at this
    exact qLg_and hP 130 l p' p this
  | (p', none) => intro l hl; simp at hl
theorem qLg_ors (hP : ∀ p, qLg p (P p)) : ∀ k acc p p0, acc.length + p0 < p → qLg p0 (qOrs P f n k acc p)
  | 0, acc, p, p0, _ => fun l hl => absurd hl (by simp [qOrs])
  | k + 1, acc, p, p0, h => by
    unfold qOrs
    by_cases e : qB f n p = 124
    · rw [if_pos e]
      match e2 : qTerm P f n (p + 1) with
      | (p', some l) =>
        have := qLg_term (f := f) (n := n) hP (p + 1) l (by rw [e2])
        rw [e2] at this
        simp only at this ⊢
        exact qLg_ors hP k _ p' p0 (by simp only [List.length_append, List.length_cons, List.length_nil]; omega)
      | (p', none) => intro l hl; simp at hl
    · rw [if_neg e]
      intro l hl
      simp only [Option.some.injEq] at hl
      subst hl
      exact h
theorem qLg_some (hP : ∀ p, qLg p (P p)) (p : Nat) : qLg p (qSome P f n p) := by
  unfold qSome
  match e : qTerm P f n p with
  | (p', some l) =>
    have := qLg_term (f := f) (n := n) hP p l (by rw [e])
    rw [e] at this
    exact qLg_ors hP 130 l p' p this
  | (p', none) => intro l hl; simp at hl
theorem qLg_ts2 {p q : Nat} {k : Int32} (hq : p + 2 ≤ q) : qLg p (qTs2 f n q k) := by
  unfold qTs2
  match e : qNum f n q with
  | (p', some v) =>
    intro l hl
    simp only [Option.some.injEq] at hl
    subst hl
    have := (qNum_rg e).2.1
    simp only [List.length_cons, List.length_nil]
    omega
  | (p', none) => intro l hl; simp at hl
theorem qLg_test (p : Nat) : qLg p (qTest f n p) := by
  have hE : ∀ k, qLg p (qTsE f n p k) := fun k => by
    unfold qTsE
    by_cases e : qB f n (p + 1) = 61
    · rw [if_pos e]; exact qLg_ts2 (by omega)
    · rw [if_neg e]; intro l hl; simp at hl
  have hL : ∀ k, qLg p (qTsL f n p k) := fun k => by
    unfold qTsL
    by_cases e : qB f n (p + 1) = 62
    · rw [if_pos e]; exact qLg_ts2 (by omega)
    · rw [if_neg e]
      by_cases e2 : qB f n (p + 1) = 60
      · rw [if_pos e2]; exact qLg_ts2 (by omega)
      · rw [if_neg e2]; intro l hl; simp at hl
  unfold qTest
  by_cases c1 : qB f n p = 107
  · rw [if_pos c1]; exact hE 0
  rw [if_neg c1]
  by_cases c2 : qB f n p = 116
  · rw [if_pos c2]; exact hE 1
  rw [if_neg c2]
  by_cases c3 : qB f n p = 110
  · rw [if_pos c3]; exact hL 2
  rw [if_neg c3]
  by_cases c4 : qB f n p = 115
  · rw [if_pos c4]; exact hL 4
  rw [if_neg c4]
  by_cases c5 : qB f n p = 104
  · rw [if_pos c5]; exact hL 6
  rw [if_neg c5]
  intro l hl; simp at hl
theorem qLg_part : ∀ d o p, qLg p (qPart f n d o p)
  | 0, o, p => fun l hl => absurd hl (by simp [qPart])
  | d + 1, o, p => by
    unfold qPart
    by_cases c1 : qB f n p = 33
    · rw [if_pos c1]
      by_cases c2 : 5 ≤ o
      · rw [if_pos c2]; intro l hl; simp at hl
      rw [if_neg c2]
      match e : qPart f n d (o + 1) (p + 1) with
      | (p', some l) =>
        have := qLg_part d (o + 1) (p + 1) l (by rw [e])
        rw [e] at this
        intro l2 hl
        simp only [Option.some.injEq] at hl
        subst hl
        simp only [List.length_append, List.length_cons, List.length_nil] at this ⊢
        omega
      | (p', none) => intro l hl; simp at hl
    rw [if_neg c1]
    by_cases c3 : qB f n p = 40
    · rw [if_pos c3]
      by_cases c2 : 5 ≤ o
      · rw [if_pos c2]; intro l hl; simp at hl
      rw [if_neg c2]
      match e : qSome (qPart f n d (o + 1)) f n (p + 1) with
      | (p', some l) =>
        have := qLg_some (f := f) (n := n) (fun q => qLg_part d (o + 1) q) (p + 1) l (by rw [e])
        rw [e] at this
        simp only at this ⊢
        by_cases c4 : qB f n p' = 41
        · rw [if_pos c4]
          intro l2 hl
          simp only [Option.some.injEq] at hl
          subst hl
          simp only
          omega
        · rw [if_neg c4]; intro l2 hl; simp at hl
      | (p', none) => intro l hl; simp at hl
    rw [if_neg c3]
    exact qLg_test p
end LG
/-! the class's way through an E: one loop -/
def qFl (P : Nat → qRes) (f : Nat → Int32) (n : Nat) : Nat → Bool → List Int32 → Nat → qRes
  | 0, _, _, p => (p, none)
  | k + 1, v, acc, p =>
    if qB f n p = 38 then (match P (p + 1) with | (p', some l) => qFl P f n k v (acc ++ l ++ [9000]) p' | (p', none) => (p', none))
    else if qB f n p = 124 then (match P (p + 1) with | (p', some l) => qFl P f n k true ((if v then acc ++ [10000] else acc) ++ l) p' | (p', none) => (p', none))
    else (p, some (if v then acc ++ [10000] else acc))
theorem qFl_eq {P : Nat → qRes} {f : Nat → Int32} {n h : Nat} (hn : n ≤ 120) (hP : ∀ p, qGd n h p (P p)) : ∀ k v a t p k2 k3, n < p + k → n < p + k2 → n < p + k3 → p ≤ n → (v = false → a = []) → qFl P f n k v (a ++ t) p = (match qAnd P f n k2 t p with | (p', some t') => qOrs P f n k3 (a ++ t' ++ (if v then [10000] else [])) p' | (p', none) => (p', none)) := by
  intro k
  induction k with
  | zero => intro v a t p k2 k3 h1 h2 h3 h4; omega
  | succ k ih =>
    intro v a t p k2 k3 h1 h2 h3 h4 hv
    obtain ⟨k2, rfl⟩ : ∃ m, k2 = m + 1 := ⟨k2 - 1, by omega⟩
    obtain ⟨k3, rfl⟩ : ∃ m, k3 = m + 1 := ⟨k3 - 1, by omega⟩
    unfold qFl qAnd
    by_cases e : qB f n p = 38
    · rw [if_pos e, if_pos e]
      match e2 : P (p + 1) with
      | (p', some l) =>
        have := hP (p + 1) l (by rw [e2])
        rw [e2] at this
        simp only at this ⊢
        have h5 := ih v a (t ++ l ++ [9000]) p' k2 (k3 + 1) (by omega) (by omega) (by omega) this.2.2 hv
        rw [← h5]
        simp only [List.append_assoc]
      | (p', none) => rfl
    rw [if_neg e, if_neg e]
    simp only
    unfold qOrs
    by_cases e3 : qB f n p = 124
    · rw [if_pos e3, if_pos e3]
      unfold qTerm
      match e2 : P (p + 1) with
      | (p', some l) =>
        have := hP (p + 1) l (by rw [e2])
        rw [e2] at this
        simp only at this ⊢
        have h5 := ih true (a ++ t ++ (if v then [10000] else [])) l p' 130 k3 (by omega) (by omega) (by omega) this.2.2 (fun q => absurd q (by decide))
        have e5 : (if v = true then a ++ t ++ [10000] else a ++ t) = a ++ t ++ (if v = true then [10000] else []) := by
          cases v <;> simp
        rw [e5, h5]
        match qAnd P f n 130 l p' with
        | (p2, some t2) => simp only [if_true]
        | (p2, none) => rfl
      | (p', none) => rfl
    · rw [if_neg e3, if_neg e3]
      cases v <;> simp
/-- an E in one loop -/
theorem qSome_fl {P : Nat → qRes} {f : Nat → Int32} {n h : Nat} (hn : n ≤ 120) (hP : ∀ p, qGd n h p (P p)) (p : Nat) : qSome P f n p = (match P p with | (p', some l) => qFl P f n 130 false l p' | (p', none) => (p', none)) := by
  unfold qSome qTerm
  match e2 : P p with
  | (p', some l) =>
    have := hP p l (by rw [e2])
    rw [e2] at this
    simp only at this ⊢
    have h5 := qFl_eq (f := f) hn hP 130 false [] l p' 130 130 (by omega) (by omega) (by omega) this.2.2 (fun _ => rfl)
    rw [List.nil_append] at h5
    rw [h5]
    match qAnd P f n 130 l p' with
    | (p2, some t2) => simp
    | (p2, none) => rfl
  | (p', none) => rfl
section CE
variable {w0 u : zWd} {O n p s b : Nat} {e : Int32}
theorem c_g {ρ α : Type} (ht : qTp0 w0 O n) (h : qRw w0 O u p e s) (X : Nat → Option α) : zgd (¬ u 216 1 = 0) (zgd (zShp (u 216 1).toNatClampNeg = (2, 8)) (X (u 216 1).toNatClampNeg)) = X O := by
  obtain ⟨t1, t2, t3, t4, t5⟩ := ht
  rw [h.2.2.2.1, nI_clamp (by omega), zgd_t (show ¬ nI O = 0 from fun q => by rw [show (0 : Int32) = nI 0 from rfl, nIe (by omega) (by omega)] at q; omega), zgd_t t3]
theorem c_149 (ht : qTp0 w0 O n) {L : List Int32} (h : qRw w0 O u p 0 (b + L.length)) (hS : qSt w0 O b u L) (hp : p ≤ n + 2) (hs : b + L.length < 120) (k : Int32) : ∃ u', mX4_readTest_149 216 k u = some ((), u') ∧ qRo w0 O b u' L (qTs2 (w0 13) n p k) := by
  have hn := ht.2.1
  obtain ⟨v, u1, m1, m2, m3⟩ := c_num (b := b) ht h (by omega)
  unfold mX4_readTest_149 qTs2
  have g := c_g (ρ := Int32) ht h (fun o => zcl (mX4_readNumber 216 u) fun r9 w10 => zcl (mX2_addStep ((w10 216 1).toNatClampNeg) k r9 w10) fun _ w12 => some ((), w12))
  have gg : ∀ (X : Option (Unit × zWd)), zgd (¬ u 216 1 = 0) (zgd (zShp (u 216 1).toNatClampNeg = (2, 8)) X) = X := fun X => c_g (ρ := Int32) ht h (fun _ => X)
  rw [gg, m1, zcl_s]
  match e2 : qNum (w0 13) n p with
  | (p', some v2) =>
    rw [e2] at m3
    obtain ⟨rfl, m4⟩ := m3
    obtain ⟨u2, a1, _, a3⟩ := c_add (b := b) ht m4 k v
    rw [h.2.2.2.1, nI_clamp (by have := ht.2.2.2.2; omega), a1, zcl_s]
    have a4 := a3 L hs rfl (m2 L hS)
    refine ⟨u2, rfl, ?_, a4.2⟩
    have := a4.1
    rw [show b + L.length + 1 = b + (L ++ [k * 1000 + v]).length by simp; omega] at this
    exact this
  | (p', none) =>
    rw [e2] at m3
    simp only at m3
    obtain ⟨u2, a1, a2, _⟩ := c_add (b := b) ht m3 k v
    rw [h.2.2.2.1, nI_clamp (by have := ht.2.2.2.2; omega), a1, zcl_s]
    exact ⟨u2, rfl, a2⟩
theorem c_149w (ht : qTp0 w0 O n) (h : qRw w0 O u p 1 s) (k : Int32) : ∃ u', mX4_readTest_149 216 k u = some ((), u') ∧ ∃ s', qRw w0 O u' p 1 s' := by
  obtain ⟨v, u1, m1, m2⟩ := c_num1 ht.2.2.2.2 h
  unfold mX4_readTest_149
  have gg : ∀ (X : Option (Unit × zWd)), zgd (¬ u 216 1 = 0) (zgd (zShp (u 216 1).toNatClampNeg = (2, 8)) X) = X := fun X => c_g (ρ := Int32) ht h (fun _ => X)
  rw [gg, m1, zcl_s]
  obtain ⟨u2, a1, a2, _⟩ := c_add (b := 0) ht m2 k v
  rw [h.2.2.2.1, nI_clamp (by have := ht.2.2.2.2; omega), a1, zcl_s]
  exact ⟨u2, rfl, a2⟩
theorem c_test (ht : qTp0 w0 O n) {L : List Int32} (h : qRw w0 O u p 0 (b + L.length)) (hS : qSt w0 O b u L) (hp : p ≤ n) (hs : b + L.length ≤ p) : ∃ u', mX4_readTest 216 u = some ((), u') ∧ qRo w0 O b u' L (qTest (w0 13) n p) := by
  have hn := ht.2.1
  have hO := ht.2.2.2.2
  have fail : ∃ u', mX4_readTest_98 216 u = some ((), u') ∧ qRo w0 O b u' L (p, none) := by
    unfold mX4_readTest_98
    rw [zgd_t zB1, zbn_e]
    exact ⟨_, rfl, _, h.fl hO 1⟩
  -- with a letter
  have h1 := h.pl hO (p + 1)
  have hS1 := hS.zu hO 2 (nI (p + 1))
  have dE : ∀ k : Int32, k < 2 → ∀ c, qB (w0 13) n p = c → ¬ c = -1 → ∃ u', mX4_readTest_104 216 k u = some ((), u') ∧ qRo w0 O b u' L (qTsE (w0 13) n p k) := by
    intro k hk c hc hc1
    have hpn := qB_in hc hc1
    unfold mX4_readTest_104 qTsE
    rw [zbn_e, h.2.2.2.2.1, ← nI_succ, if_neg (by rw [zle]; rw [zlt] at hk; omega), c_need0 ht h1 (by omega) (by decide)]
    by_cases c2 : qB (w0 13) n (p + 1) = 61
    · rw [if_pos c2, if_pos c2, zcl_s]
      exact c_149 ht (h1.pl hO (p + 2)) (hS1.zu hO _ _) (by omega) (by omega) k
    · rw [if_neg c2, if_neg c2, zcl_s]
      exact c_149w ht (h1.fl hO 1) k
  have dL : ∀ k : Int32, ¬ k < 2 → ∀ c, qB (w0 13) n p = c → ¬ c = -1 → ∃ u', mX4_readTest_104 216 k u = some ((), u') ∧ qRo w0 O b u' L (qTsL (w0 13) n p k) := by
    intro k hk c hc hc1
    have hpn := qB_in hc hc1
    unfold mX4_readTest_104 qTsL
    rw [zbn_e, h.2.2.2.2.1, ← nI_succ, if_pos (by rw [zle]; rw [zlt] at hk; omega), c_take0 ht h1 (by omega) (by decide)]
    by_cases c2 : qB (w0 13) n (p + 1) = 62
    · rw [if_pos c2, if_pos c2, zcl_s, if_neg (by decide)]
      exact c_149 ht (h1.pl hO (p + 2)) (hS1.zu hO _ _) (by omega) (by omega) (k + 1)
    · rw [if_neg c2, if_neg c2, zcl_s, if_pos rfl, c_need0 ht h1 (by omega) (by decide)]
      by_cases c3 : qB (w0 13) n (p + 1) = 60
      · rw [if_pos c3, if_pos c3, zcl_s]
        exact c_149 ht (h1.pl hO (p + 2)) (hS1.zu hO _ _) (by omega) (by omega) k
      · rw [if_neg c3, if_neg c3, zcl_s]
        exact c_149w ht (h1.fl hO 1) k
  unfold mX4_readTest qTest
  rw [c_now0 ht h (by omega), zcl_s]
  by_cases c1 : qB (w0 13) n p = 107
  · rw [if_pos c1, if_neg (by rw [c1]; decide), if_neg (by rw [c1]; decide), if_neg (by rw [c1]; decide), if_pos c1]; exact dE 0 (by decide) _ c1 (by decide)
  rw [if_neg c1]
  by_cases c2 : qB (w0 13) n p = 116
  · rw [if_pos c2, c2]; exact dE 1 (by decide) _ c2 (by decide)
  rw [if_neg c2]
  by_cases c3 : qB (w0 13) n p = 110
  · rw [if_pos c3, c3]; exact dL 2 (by decide) _ c3 (by decide)
  rw [if_neg c3]
  by_cases c4 : qB (w0 13) n p = 115
  · rw [if_pos c4, c4]; exact dL 4 (by decide) _ c4 (by decide)
  rw [if_neg c4]
  by_cases c5 : qB (w0 13) n p = 104
  · rw [if_pos c5, if_neg c1, if_neg c2, if_neg c3, if_neg c4, if_pos c5]; exact dL 6 (by decide) _ c5 (by decide)
  rw [if_neg c5]
  rw [if_neg c5, if_neg c1, if_neg c3, if_neg c4, if_neg c2]
  simp only [ite_self]
  exact fail
theorem c_test1 (ht : qTp0 w0 O n) (h : qRw w0 O u p 1 s) : ∃ u', mX4_readTest 216 u = some ((), u') ∧ qRw w0 O u' p 1 s := by
  unfold mX4_readTest
  rw [c_now1 h, zcl_s]
  refine ⟨zup u 216 3 1, ?_, h.fl ht.2.2.2.2 1⟩
  unfold mX4_readTest_98
  rw [if_neg (by decide), if_neg (by decide), if_neg (by decide), if_neg (by decide), if_neg (by decide), if_neg (by decide), if_neg (by decide), if_neg (by decide), if_neg (by decide), if_neg (by decide), if_neg (by decide), if_neg (by decide), if_neg (by decide), zgd_t zB1, zbn_e]
end CE
