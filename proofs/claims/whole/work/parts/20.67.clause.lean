/-! a clause, the clauses -/
abbrev qCl1 : Type := Int32 × Int32 × Nat × List Int32
def qShr (f : Nat → Int32) (n p : Nat) : Nat × Option Int32 := if 48 ≤ qB f n p ∧ qB f n p ≤ 50 then (p + 1, some (qB f n p - 48)) else (p, none)
def qCl (f : Nat → Int32) (n p : Nat) : Nat × Option qCl1 := match qWs f n p with
  | (p1, none) => (p1, none)
  | (p1, some i) => if i = 5 then (match qShr f n p1 with | (p2, some x) => (p2, some (5, x, 0, [])) | (p2, none) => (p2, none))
    else match qNum f n p1 with
      | (p2, none) => (p2, none)
      | (p2, some x) => if i = 0 then (if qB f n p2 = 32 then (match qE f n (p2 + 1) with | (p3, some l) => (p3, some (0, x, p2 + 1, l)) | (p3, none) => (p3, none)) else (p2, none)) else (p2, some (nI i, x, 0, []))
def qCls (f : Nat → Int32) (n : Nat) : Nat → Nat → List qCl1 → Nat × Option (List qCl1)
  | 0, p, _ => (p, none)
  | k + 1, p, acc => match qCl f n p with
    | (p', none) => (p', none)
    | (p', some c) => if ¬ k = 0 ∧ qB f n p' = 59 then qCls f n k (p' + 1) (acc ++ [c]) else if p' = n then (p', some (acc ++ [c])) else (p', none)
/-! nothing is read behind the end -/
section BD
variable {f : Nat → Int32} {n : Nat}
theorem qCm_in : ∀ l p, (∀ c ∈ l, ¬ c = -1) → p ≤ n → p + qCm f n p l ≤ n
  | [], p, _, h => h
  | c :: l, p, hl, h => by
    by_cases e : qB f n p = c
    · have := qB_in e (hl c (List.mem_cons_self ..))
      rw [qCm_y e]
      have := qCm_in l (p + 1) (fun x hx => hl x (List.mem_cons_of_mem _ hx)) (by omega)
      omega
    · rw [qCm_n e]; exact h
theorem qWo_in {p i : Nat} (hi : i < 6) (h : p ≤ n) : (qWo f n p i).1 ≤ n ∧ ∀ j, (qWo f n p i).2 = some j → j = i ∧ p < (qWo f n p i).1 := by
  have hd : ∀ i : Fin 6, ∀ c ∈ qL i.1 ++ [32], ¬ c = -1 := by decide +kernel
  have h1 := qCm_in (f := f) (qL i ++ [32]) p (hd ⟨i, hi⟩) h
  unfold qWo
  by_cases e : qCm f n p (qL i ++ [32]) = (qL i).length + 1
  · rw [if_pos e]
    exact ⟨by rw [e] at h1; exact h1, fun j hj => ⟨(Option.some.inj hj).symm, by show p < p + _; omega⟩⟩
  · rw [if_neg e]
    exact ⟨h1, fun j hj => by simp at hj⟩
theorem qWs_in {p : Nat} (h : p ≤ n) : (qWs f n p).1 ≤ n ∧ ∀ j, (qWs f n p).2 = some j → j < 6 ∧ p < (qWs f n p).1 := by
  have k : ∀ i, i < 6 → (qWo f n p i).1 ≤ n ∧ ∀ j, (qWo f n p i).2 = some j → j < 6 ∧ p < (qWo f n p i).1 := fun i hi => ⟨(qWo_in hi h).1, fun j hj => by have := (qWo_in hi h).2 j hj; omega⟩
  unfold qWs
  by_cases c1 : qB f n p = 97
  · rw [if_pos c1]; exact k 2 (by omega)
  rw [if_neg c1]
  by_cases c2 : qB f n p = 100
  · rw [if_pos c2]; exact k 1 (by omega)
  rw [if_neg c2]
  by_cases c3 : qB f n p = 108
  · rw [if_pos c3]
    by_cases c4 : qB f n (p + 1) = 97
    · rw [if_pos c4]; exact k 3 (by omega)
    · rw [if_neg c4]; exact k 4 (by omega)
  rw [if_neg c3]
  by_cases c5 : qB f n p = 114
  · rw [if_pos c5]; exact k 0 (by omega)
  rw [if_neg c5]
  by_cases c6 : qB f n p = 115
  · rw [if_pos c6]; exact k 5 (by omega)
  rw [if_neg c6]
  exact ⟨h, fun j hj => by simp at hj⟩
theorem qNum_in {p : Nat} (h : p ≤ n) : (qNum f n p).1 ≤ n := by
  match e : qNum f n p with
  | (p', some v) => exact (qNum_rg e).2.2.2
  | (p', none) =>
    have : p' = p := by
      unfold qNum at e
      by_cases d0 : qDig (qB f n p)
      · rw [if_pos d0] at e
        by_cases c : qB f n p = 48
        · rw [if_pos c] at e; simp at e
        · rw [if_neg c] at e
          by_cases d1 : qDig (qB f n (p + 1))
          · rw [if_pos d1] at e
            by_cases d2 : qDig (qB f n (p + 2))
            · rw [if_pos d2] at e; simp at e
            · rw [if_neg d2] at e; simp at e
          · rw [if_neg d1] at e; simp at e
      · rw [if_neg d0] at e
        exact (Prod.mk.inj e).1.symm
    rw [this]; exact h
/-- an answer stands within -/
def qIw (f : Nat → Int32) (n : Nat) (P : Nat → qRes) : Prop := ∀ p, p ≤ n → (P p).1 ≤ n
theorem qIw_ts2 (k : Int32) {q : Nat} (h : q ≤ n) : (qTs2 f n q k).1 ≤ n := by
  have := qNum_in (f := f) h
  unfold qTs2
  match e : qNum f n q with
  | (p', some v) => rw [e] at this; exact this
  | (p', none) => rw [e] at this; exact this
theorem qIw_test : qIw f n (qTest f n) := by
  intro p h
  have hE : ∀ k c, qB f n p = c → ¬ c = -1 → (qTsE f n p k).1 ≤ n := fun k c hc hc1 => by
    have := qB_in hc hc1
    unfold qTsE
    by_cases e : qB f n (p + 1) = 61
    · have := qB_in e (by decide)
      rw [if_pos e]; exact qIw_ts2 k (by omega)
    · rw [if_neg e]; show p + 1 ≤ n; omega
  have hL : ∀ k c, qB f n p = c → ¬ c = -1 → (qTsL f n p k).1 ≤ n := fun k c hc hc1 => by
    have := qB_in hc hc1
    unfold qTsL
    by_cases e : qB f n (p + 1) = 62
    · have := qB_in e (by decide)
      rw [if_pos e]; exact qIw_ts2 _ (by omega)
    · rw [if_neg e]
      by_cases e2 : qB f n (p + 1) = 60
      · have := qB_in e2 (by decide)
        rw [if_pos e2]; exact qIw_ts2 _ (by omega)
      · rw [if_neg e2]; show p + 1 ≤ n; omega
  unfold qTest
  by_cases c1 : qB f n p = 107
  · rw [if_pos c1]; exact hE 0 _ c1 (by decide)
  rw [if_neg c1]
  by_cases c2 : qB f n p = 116
  · rw [if_pos c2]; exact hE 1 _ c2 (by decide)
  rw [if_neg c2]
  by_cases c3 : qB f n p = 110
  · rw [if_pos c3]; exact hL 2 _ c3 (by decide)
  rw [if_neg c3]
  by_cases c4 : qB f n p = 115
  · rw [if_pos c4]; exact hL 4 _ c4 (by decide)
  rw [if_neg c4]
  by_cases c5 : qB f n p = 104
  · rw [if_pos c5]; exact hL 6 _ c5 (by decide)
  rw [if_neg c5]
  exact h
theorem qIw_fl {P : Nat → qRes} (hP : qIw f n P) : ∀ k v acc p, p ≤ n → (qFl P f n k v acc p).1 ≤ n
  | 0, v, acc, p, h => h
  | k + 1, v, acc, p, h => by
    unfold qFl
    by_cases e : qB f n p = 38
    · have := qB_in e (by decide)
      have g := hP (p + 1) (by omega)
      rw [if_pos e]
      match e2 : P (p + 1) with
      | (p', some l) => rw [e2] at g; exact qIw_fl hP k v _ p' g
      | (p', none) => rw [e2] at g; exact g
    rw [if_neg e]
    by_cases e3 : qB f n p = 124
    · have := qB_in e3 (by decide)
      have g := hP (p + 1) (by omega)
      rw [if_pos e3]
      match e2 : P (p + 1) with
      | (p', some l) => rw [e2] at g; exact qIw_fl hP k true _ p' g
      | (p', none) => rw [e2] at g; exact g
    rw [if_neg e3]
    exact h
theorem qIw_some {P : Nat → qRes} {h : Nat} (hn : n ≤ 120) (hG : ∀ p, qGd n h p (P p)) (hP : qIw f n P) : qIw f n (qSome P f n) := by
  intro p hp
  rw [qSome_fl hn hG]
  have g := hP p hp
  match e2 : P p with
  | (p', some l) => rw [e2] at g; exact qIw_fl hP 130 false l p' g
  | (p', none) => rw [e2] at g; exact g
theorem qIw_part (hn : n ≤ 120) : ∀ d o, qIw f n (qPart f n d o)
  | 0, o => fun p h => h
  | d + 1, o => by
    intro p h
    unfold qPart
    by_cases c1 : qB f n p = 33
    · have := qB_in c1 (by decide)
      rw [if_pos c1]
      by_cases c2 : 5 ≤ o
      · rw [if_pos c2]; exact h
      rw [if_neg c2]
      have g := qIw_part hn d (o + 1) (p + 1) (by omega)
      match e : qPart f n d (o + 1) (p + 1) with
      | (p', some l) => rw [e] at g; exact g
      | (p', none) => rw [e] at g; exact g
    rw [if_neg c1]
    by_cases c3 : qB f n p = 40
    · have := qB_in c3 (by decide)
      rw [if_pos c3]
      by_cases c2 : 5 ≤ o
      · rw [if_pos c2]; exact h
      rw [if_neg c2]
      have g := qIw_some hn (qGd_part (f := f) (n := n) d (o + 1)) (qIw_part hn d (o + 1)) (p + 1) (by omega)
      match e : qSome (qPart f n d (o + 1)) f n (p + 1) with
      | (p', some l) =>
        rw [e] at g
        simp only at g ⊢
        by_cases c4 : qB f n p' = 41
        · have := qB_in c4 (by decide)
          rw [if_pos c4]; show p' + 1 ≤ n; omega
        · rw [if_neg c4]; exact g
      | (p', none) => rw [e] at g; exact g
    rw [if_neg c3]
    exact qIw_test p h
theorem qIw_E (hn : n ≤ 120) : qIw f n (qE f n) := qIw_some hn (qGd_part (f := f) (n := n) 7 0) (qIw_part hn 7 0)
/-- a clause: where it ends, what it holds -/
theorem qCl_in {p : Nat} (hn : n ≤ 120) (h : p ≤ n) : (qCl f n p).1 ≤ n ∧ ∀ c, (qCl f n p).2 = some c → p < (qCl f n p).1 ∧ (∃ i, i < 6 ∧ c.1 = nI i) ∧ (∃ m, m ≤ 999 ∧ c.2.1 = nI m) ∧ p + c.2.2.2.length < (qCl f n p).1 ∧ (c.1 = 0 → c.2.2.1 ≤ 120 ∧ ∃ p3, qE f n c.2.2.1 = (p3, some c.2.2.2)) := by
  have g := qWs_in (f := f) h
  unfold qCl
  match e1 : qWs f n p with
  | (p1, none) => rw [e1] at g; exact ⟨g.1, fun c hc => by simp at hc⟩
  | (p1, some i) =>
    rw [e1] at g
    obtain ⟨g1, g2⟩ := g
    obtain ⟨hi, g3⟩ := g2 i rfl
    simp only at g1 g3 ⊢
    by_cases c5 : i = 5
    · rw [if_pos c5]
      unfold qShr
      by_cases k : 48 ≤ qB f n p1 ∧ qB f n p1 ≤ 50
      · have hp1 : p1 < n := by
          by_cases q : p1 < n
          · exact q
          · have : qB f n p1 = -1 := by unfold qB; rw [if_neg q]
            rw [this] at k; exact absurd k.1 (by decide)
        rw [if_pos k]
        refine ⟨by show p1 + 1 ≤ n; omega, fun c hc => ?_⟩
        simp only [Option.some.injEq] at hc
        subst hc
        obtain ⟨m, hm, em⟩ := qDig_nI (x := qB f n p1) ⟨k.1, by have := k.2; rw [zle] at this ⊢; have e50 : (50 : Int32).toInt = 50 := (by decide); have e57 : (57 : Int32).toInt = 57 := (by decide); omega⟩
        refine ⟨by show p < p1 + 1; omega, ⟨5, by omega, rfl⟩, ⟨m, by omega, ?_⟩, by show p + 0 < p1 + 1; omega, fun q => absurd (show (5 : Int32) = 0 from q) (by decide)⟩
        show qB f n p1 - 48 = nI m
        rw [em, show (48 : Int32) = nI 48 from rfl, pk_sub (by omega)]; congr 1; omega
      · rw [if_neg k]; exact ⟨g1, fun c hc => by simp at hc⟩
    rw [if_neg c5]
    have gN := qNum_in (f := f) g1
    match e2 : qNum f n p1 with
    | (p2, none) => rw [e2] at gN; exact ⟨gN, fun c hc => by simp at hc⟩
    | (p2, some x) =>
      obtain ⟨⟨m, hm, ex⟩, k1, k2, k3⟩ := qNum_rg e2
      simp only
      by_cases c0 : i = 0
      · rw [if_pos c0]
        by_cases c32 : qB f n p2 = 32
        · have hp2 := qB_in c32 (by decide)
          rw [if_pos c32]
          have gE := qIw_E (f := f) hn (p2 + 1) (by omega)
          match e3 : qE f n (p2 + 1) with
          | (p3, none) => rw [e3] at gE; exact ⟨gE, fun c hc => by simp at hc⟩
          | (p3, some l) =>
            rw [e3] at gE
            have gl := qLg_some (f := f) (n := n) (fun q => qLg_part 7 0 q) (p2 + 1) l (by show (qE f n (p2 + 1)).2 = _; rw [e3])
            rw [show qSome (qPart f n 7 0) f n (p2 + 1) = qE f n (p2 + 1) from rfl, e3] at gl
            simp only at gl gE
            refine ⟨gE, fun c hc => ?_⟩
            simp only [Option.some.injEq] at hc
            subst hc
            exact ⟨by show p < p3; omega, ⟨0, by omega, rfl⟩, ⟨m, hm, ex⟩, by show p + l.length < p3; omega, fun _ => ⟨by show p2 + 1 ≤ 120; omega, p3, e3⟩⟩
        · rw [if_neg c32]; exact ⟨k3, fun c hc => by simp at hc⟩
      · rw [if_neg c0]
        refine ⟨k3, fun c hc => ?_⟩
        simp only [Option.some.injEq] at hc
        subst hc
        refine ⟨by show p < p2; omega, ⟨i, hi, rfl⟩, ⟨m, hm, ex⟩, by show p + 0 < p2; omega, fun q => ?_⟩
        exact absurd (show nI i = nI 0 from q) (by rw [nIe (by omega) (by omega)]; exact c0)
end BD
