/-! steps: what a list of them makes of a stack of truths -/
def qStp (tv : Int32 → Bool) (x : Int32) (st : List Bool) : List Bool :=
  if x / 1000 = 8 then (match st with | a :: r => (!a) :: r | [] => [])
  else if x / 1000 = 9 then (match st with | a :: b :: r => (b && a) :: r | r => r)
  else if x / 1000 = 10 then (match st with | a :: b :: r => (b || a) :: r | r => r)
  else tv x :: st
def qRn (tv : Int32 → Bool) (l : List Int32) (st : List Bool) : List Bool := l.foldl (fun st x => qStp tv x st) st
def qVal (tv : Int32 → Bool) (l : List Int32) : Bool := (qRn tv l []).headD false
def qOk (l : List Int32) (h : Nat) : Prop := ∀ (tv : Int32 → Bool) (st : List Bool), qRn tv l st = qVal tv l :: st ∧ ∀ j, st.length ≤ (qRn tv (l.take j) st).length ∧ (qRn tv (l.take j) st).length ≤ st.length + h
theorem qRn_app (tv : Int32 → Bool) (a b : List Int32) (st : List Bool) : qRn tv (a ++ b) st = qRn tv b (qRn tv a st) := List.foldl_append ..
theorem qRn_1 (tv : Int32 → Bool) (x : Int32) (st : List Bool) : qRn tv [x] st = qStp tv x st := rfl
theorem qRn_0 (tv : Int32 → Bool) (st : List Bool) : qRn tv [] st = st := rfl
theorem qVal_of {tv : Int32 → Bool} {l : List Int32} {b : Bool} (h : ∀ st, qRn tv l st = b :: st) : qVal tv l = b := by unfold qVal; rw [h]; rfl
theorem qOk.up {l : List Int32} {h k : Nat} (g : qOk l h) (hk : h ≤ k) : qOk l k := fun tv st => ⟨(g tv st).1, fun j => ⟨((g tv st).2 j).1, Nat.le_trans ((g tv st).2 j).2 (by omega)⟩⟩
theorem qRn_take {tv : Int32 → Bool} {a b : List Int32} {st : List Bool} {ha hb h : Nat} (h1 : ∀ j, st.length ≤ (qRn tv (a.take j) st).length ∧ (qRn tv (a.take j) st).length ≤ st.length + ha) (h2 : ∀ j, st.length ≤ (qRn tv (b.take j) (qRn tv a st)).length ∧ (qRn tv (b.take j) (qRn tv a st)).length ≤ st.length + hb) (g1 : ha ≤ h) (g2 : hb ≤ h) (j : Nat) : st.length ≤ (qRn tv ((a ++ b).take j) st).length ∧ (qRn tv ((a ++ b).take j) st).length ≤ st.length + h := by
  rw [List.take_append, qRn_app]
  by_cases e : j ≤ a.length
  · rw [show j - a.length = 0 by omega, List.take_zero, qRn_0]
    exact ⟨(h1 j).1, Nat.le_trans (h1 j).2 (by omega)⟩
  · rw [List.take_of_length_le (show a.length ≤ j by omega)]
    exact ⟨(h2 _).1, Nat.le_trans (h2 _).2 (by omega)⟩
theorem qOk_t {x : Int32} (h8 : ¬ x / 1000 = 8) (h9 : ¬ x / 1000 = 9) (h10 : ¬ x / 1000 = 10) : qOk [x] 1 ∧ ∀ tv, qVal tv [x] = tv x := by
  have e : ∀ tv st, qRn tv [x] st = tv x :: st := fun tv st => by rw [qRn_1]; unfold qStp; rw [if_neg h8, if_neg h9, if_neg h10]
  have ev : ∀ tv, qVal tv [x] = tv x := fun tv => qVal_of (e tv)
  refine ⟨fun tv st => ⟨by rw [ev, e], fun j => ?_⟩, ev⟩
  match j with
  | 0 => rw [List.take_zero, qRn_0]; exact ⟨by omega, by omega⟩
  | j + 1 => rw [List.take_of_length_le (by simp), e]; simp
theorem qOk_n {l : List Int32} {h : Nat} (g : qOk l h) (h1 : 1 ≤ h) : qOk (l ++ [8000]) h ∧ ∀ tv, qVal tv (l ++ [8000]) = !(qVal tv l) := by
  have e : ∀ tv st, qRn tv (l ++ [8000]) st = (!(qVal tv l)) :: st := fun tv st => by
    rw [qRn_app, (g tv st).1, qRn_1]; unfold qStp; rw [if_pos (by decide)]
  have ev : ∀ tv, qVal tv (l ++ [8000]) = !(qVal tv l) := fun tv => qVal_of (e tv)
  refine ⟨fun tv st => ⟨by rw [ev, e], qRn_take (g tv st).2 (fun j => ?_) (Nat.le_refl h) h1⟩, ev⟩
  rw [(g tv st).1]
  match j with
  | 0 => rw [List.take_zero, qRn_0]; simp
  | j + 1 => rw [List.take_of_length_le (by simp), qRn_1]; unfold qStp; rw [if_pos (by decide)]; simp
theorem qOk_2 {a l : List Int32} {h k : Nat} (ga : qOk a h) (gl : qOk l k) (hk : k + 1 ≤ h) (x : Int32) (o : Bool → Bool → Bool) (hx : ∀ tv p q r, qStp tv x (p :: q :: r) = o q p :: r) : qOk (a ++ l ++ [x]) h ∧ ∀ tv, qVal tv (a ++ l ++ [x]) = o (qVal tv a) (qVal tv l) := by
  have e1 : ∀ tv st, qRn tv (a ++ l) st = qVal tv l :: qVal tv a :: st := fun tv st => by rw [qRn_app, (ga tv st).1, (gl tv _).1]
  have e : ∀ tv st, qRn tv (a ++ l ++ [x]) st = o (qVal tv a) (qVal tv l) :: st := fun tv st => by rw [qRn_app, e1, qRn_1, hx]
  have ev : ∀ tv, qVal tv (a ++ l ++ [x]) = o (qVal tv a) (qVal tv l) := fun tv => qVal_of (e tv)
  refine ⟨fun tv st => ⟨by rw [ev, e], qRn_take (ha := h) (hb := h) (qRn_take (ha := h) (hb := k + 1) (ga tv st).2 (fun j => ?_) (Nat.le_refl h) hk) (fun j => ?_) (Nat.le_refl h) (Nat.le_refl h)⟩, ev⟩
  · rw [(ga tv st).1]
    have := (gl tv (qVal tv a :: st)).2 j
    simp only [List.length_cons] at this
    exact ⟨by omega, by omega⟩
  · rw [e1]
    have k1 := (gl tv []).2 l.length
    rw [List.take_length, (gl tv []).1] at k1
    simp only [List.length_cons, List.length_nil] at k1
    have k2 := k1.2
    match j with
    | 0 => rw [List.take_zero, qRn_0]; simp only [List.length_cons]; exact ⟨by omega, by omega⟩
    | j + 1 => rw [List.take_of_length_le (by simp), qRn_1, hx]; simp only [List.length_cons]; exact ⟨by omega, by omega⟩
theorem qOk_a {a l : List Int32} {h k : Nat} (ga : qOk a h) (gl : qOk l k) (hk : k + 1 ≤ h) : qOk (a ++ l ++ [9000]) h ∧ ∀ tv, qVal tv (a ++ l ++ [9000]) = (qVal tv a && qVal tv l) := qOk_2 ga gl hk 9000 (fun p q => p && q) (fun tv p q r => by unfold qStp; rw [if_neg (by decide), if_pos (by decide)])
theorem qOk_o {a l : List Int32} {h k : Nat} (ga : qOk a h) (gl : qOk l k) (hk : k + 1 ≤ h) : qOk (a ++ l ++ [10000]) h ∧ ∀ tv, qVal tv (a ++ l ++ [10000]) = (qVal tv a || qVal tv l) := qOk_2 ga gl hk 10000 (fun p q => p || q) (fun tv p q r => by unfold qStp; rw [if_neg (by decide), if_neg (by decide), if_pos (by decide)])
/-! what the grammar spells is so -/
theorem qDig_nI {x : Int32} (h : qDig x) : ∃ m : Nat, m ≤ 9 ∧ x = nI (48 + m) := by
  have h1 : (48 : Int32).toInt ≤ x.toInt := Int32.le_iff_toInt_le.mp h.1
  have h2 : x.toInt ≤ (57 : Int32).toInt := Int32.le_iff_toInt_le.mp h.2
  rw [show (48 : Int32).toInt = 48 from rfl] at h1
  rw [show (57 : Int32).toInt = 57 from rfl] at h2
  obtain ⟨n, e1, e2, e3, _⟩ := qNat (x := x) (lo := 48) (hi := 57) ⟨h1, h2⟩ (by decide)
  exact ⟨n - 48, by omega, by rw [e1]; congr 1; omega⟩
theorem qNum_rg {f : Nat → Int32} {n p p' : Nat} {v : Int32} (h : qNum f n p = (p', some v)) : (∃ m : Nat, m ≤ 999 ∧ v = nI m) ∧ p < p' ∧ p' ≤ p + 3 ∧ p' ≤ n := by
  unfold qNum at h
  have hin : ∀ q, qDig (qB f n q) → q < n := fun q hq => by
    unfold qB at hq
    by_cases g : q < n
    · exact g
    · rw [if_neg g] at hq; exact absurd hq.1 (by decide)
  by_cases h1 : qDig (qB f n p)
  · rw [if_pos h1] at h
    have l1 := hin _ h1
    obtain ⟨a, ha, ea⟩ := qDig_nI h1
    have e0 : ∀ m, nI (48 + m) - 48 = nI m := fun m => by rw [show (48 : Int32) = nI 48 from rfl, pk_sub (by omega)]; congr 1; omega
    by_cases h2 : qB f n p = 48
    · rw [if_pos h2] at h
      obtain ⟨rfl, rfl⟩ : p + 1 = p' ∧ 0 = v := by simpa using h
      exact ⟨⟨0, by omega, rfl⟩, by omega, by omega, by omega⟩
    · rw [if_neg h2] at h
      by_cases h3 : qDig (qB f n (p + 1))
      · rw [if_pos h3] at h
        have l2 := hin _ h3
        obtain ⟨b, hb, eb⟩ := qDig_nI h3
        by_cases h4 : qDig (qB f n (p + 2))
        · rw [if_pos h4] at h
          have l3 := hin _ h4
          obtain ⟨c, hc, ec⟩ := qDig_nI h4
          obtain ⟨rfl, rfl⟩ : p + 3 = p' ∧ _ = v := by simpa using h
          refine ⟨⟨(a * 10 + b) * 10 + c, by omega, ?_⟩, by omega, by omega, by omega⟩
          rw [ea, eb, ec, e0, e0, e0, show (10 : Int32) = nI 10 from rfl, pk_mul, nI_add, pk_mul, nI_add]
        · rw [if_neg h4] at h
          obtain ⟨rfl, rfl⟩ : p + 2 = p' ∧ _ = v := by simpa using h
          refine ⟨⟨a * 10 + b, by omega, ?_⟩, by omega, by omega, by omega⟩
          rw [ea, eb, e0, e0, show (10 : Int32) = nI 10 from rfl, pk_mul, nI_add]
      · rw [if_neg h3] at h
        obtain ⟨rfl, rfl⟩ : p + 1 = p' ∧ _ = v := by simpa using h
        exact ⟨⟨a, by omega, by rw [ea, e0]⟩, by omega, by omega, by omega⟩
  · rw [if_neg h1] at h
    simp at h
/-- a test: its kind, its number -/
theorem qTest_ok {f : Nat → Int32} {n p p' : Nat} {l : List Int32} (h : qTest f n p = (p', some l)) : (∃ k m : Nat, k ≤ 7 ∧ m ≤ 999 ∧ l = [nI (k * 1000 + m)]) ∧ p < p' ∧ p' ≤ n := by
  have h2 : ∀ q (k : Nat), k ≤ 7 → p < q → qTs2 f n q (nI k) = (p', some l) → (∃ k m : Nat, k ≤ 7 ∧ m ≤ 999 ∧ l = [nI (k * 1000 + m)]) ∧ p < p' ∧ p' ≤ n := by
    intro q k hk hq g
    unfold qTs2 at g
    match e : qNum f n q with
    | (r, some v) =>
      rw [e] at g
      simp only at g
      obtain ⟨⟨m, hm, rfl⟩, g1, g2, g3⟩ := qNum_rg e
      obtain ⟨rfl, rfl⟩ : r = p' ∧ _ = l := by simpa using g
      exact ⟨⟨k, m, hk, hm, by rw [show (1000 : Int32) = nI 1000 from rfl, pk_mul, nI_add]⟩, by omega, g3⟩
    | (r, none) => rw [e] at g; simp at g
  have hE : ∀ (k : Nat), k ≤ 7 → qTsE f n p (nI k) = (p', some l) → (∃ k m : Nat, k ≤ 7 ∧ m ≤ 999 ∧ l = [nI (k * 1000 + m)]) ∧ p < p' ∧ p' ≤ n := by
    intro k hk g
    unfold qTsE at g
    by_cases e : qB f n (p + 1) = 61
    · rw [if_pos e] at g; exact h2 _ k hk (by omega) g
    · rw [if_neg e] at g; simp at g
  have hL : ∀ (k : Nat), k + 1 ≤ 7 → qTsL f n p (nI k) = (p', some l) → (∃ k m : Nat, k ≤ 7 ∧ m ≤ 999 ∧ l = [nI (k * 1000 + m)]) ∧ p < p' ∧ p' ≤ n := by
    intro k hk g
    unfold qTsL at g
    by_cases e : qB f n (p + 1) = 62
    · rw [if_pos e, ← nI_succ] at g; exact h2 _ (k + 1) hk (by omega) g
    · rw [if_neg e] at g
      by_cases e2 : qB f n (p + 1) = 60
      · rw [if_pos e2] at g; exact h2 _ k (by omega) (by omega) g
      · rw [if_neg e2] at g; simp at g
  unfold qTest at h
  by_cases c1 : qB f n p = 107
  · rw [if_pos c1] at h; exact hE 0 (by omega) h
  rw [if_neg c1] at h
  by_cases c2 : qB f n p = 116
  · rw [if_pos c2] at h; exact hE 1 (by omega) h
  rw [if_neg c2] at h
  by_cases c3 : qB f n p = 110
  · rw [if_pos c3] at h; exact hL 2 (by omega) h
  rw [if_neg c3] at h
  by_cases c4 : qB f n p = 115
  · rw [if_pos c4] at h; exact hL 4 (by omega) h
  rw [if_neg c4] at h
  by_cases c5 : qB f n p = 104
  · rw [if_pos c5] at h; exact hL 6 (by omega) h
  rw [if_neg c5] at h
  simp at h
theorem qStep_k {k m : Nat} (hk : k ≤ 7) (hm : m ≤ 999) : nI (k * 1000 + m) / 1000 = nI k ∧ nI (k * 1000 + m) - nI (k * 1000 + m) / 1000 * 1000 = nI m := by
  have e : nI (k * 1000 + m) / 1000 = nI k := by
    rw [show (1000 : Int32) = nI 1000 from rfl, pk_div (by omega) (by decide) (by decide)]
    congr 1; omega
  refine ⟨e, ?_⟩
  rw [e, show (1000 : Int32) = nI 1000 from rfl, pk_mul, pk_sub (by omega)]
  congr 1; omega
theorem qTest_ok2 {k m : Nat} (hk : k ≤ 7) (hm : m ≤ 999) : qOk [nI (k * 1000 + m)] 1 := by
  have e := (qStep_k hk hm).1
  refine (qOk_t ?_ ?_ ?_).1 <;> (rw [e]; intro q)
  · rw [show (8 : Int32) = nI 8 from rfl, nIe (by omega) (by omega)] at q; omega
  · rw [show (9 : Int32) = nI 9 from rfl, nIe (by omega) (by omega)] at q; omega
  · rw [show (10 : Int32) = nI 10 from rfl, nIe (by omega) (by omega)] at q; omega
