/-! the class reads an E as the grammar says -/
section CP
variable {w0 u : zWd} {O n p s b h : Nat} {e oI : Int32} {ce cp : Nat → Int32 → zWd → Option (Unit × zWd)} {P : Nat → qRes} {L : List Int32}
theorem c_gg (ht : qTp0 w0 O n) (h : qRw w0 O u p e s) (X : Option (Unit × zWd)) : zgd (¬ u 216 1 = 0) (zgd (zShp (u 216 1).toNatClampNeg = (2, 8)) X) = X := c_g (ρ := Int32) ht h (fun _ => X)
theorem c_o (ht : qTp0 w0 O n) (h : qRw w0 O u p e s) : (u 216 1).toNatClampNeg = O := by
  rw [h.2.2.2.1, nI_clamp (by have := ht.2.2.2.2; omega)]
theorem c_78w (ht : qTp0 w0 O n) (h : qRw w0 O u p e s) (v2 : Int32) : ∃ u', mX4_readEither_78 ce cp 216 v2 u = some ((), u') ∧ ∃ s', qRw w0 O u' p e s' := by
  unfold mX4_readEither_78 mX4_readEither_92
  by_cases c : v2 = 0
  · rw [if_pos c]; exact ⟨u, rfl, s, h⟩
  · rw [if_neg c, c_gg ht h, c_o ht h]
    obtain ⟨u2, a1, a2, _⟩ := c_add (b := 0) ht h 10 0
    rw [a1, zcl_s]
    exact ⟨u2, rfl, a2⟩
theorem c_9w (ht : qTp0 w0 O n) (h : qRw w0 O u p 1 s) (k : Int32 × Int32 × zWd → Option (Unit × zWd)) (v i : Int32) : ∃ u', mX4_readEither_9b ce cp 216 oI k v i u = some ((), u') ∧ ∃ s', qRw w0 O u' p 1 s' := by
  unfold mX4_readEither_9b
  by_cases c : (120 : Int32) ≤ i
  · rw [if_pos c]; exact c_78w ht h v
  · rw [if_neg c, c_take1 h, zcl_s, if_pos rfl, c_take1 h, zcl_s, if_pos rfl]; exact c_78w ht h v
theorem vB {v : Bool} : (if v = true then (1 : Int32) else 0) = 0 ↔ v = false := by cases v <;> simp
/-- the loop -/
theorem c_loop (ht : qTp0 w0 O n) (hP : ∀ p, qGd n h p (P p)) (hL : ∀ p, qLg p (P p)) (hc : ∀ u p L, qRw w0 O u p 0 (b + L.length) → qSt w0 O b u L → p ≤ n → b + L.length ≤ p → ∃ u', cp 216 oI u = some ((), u') ∧ qRo w0 O b u' L (P p)) : ∀ m (v : Bool) i acc p u F, n < p + m → m + 1 ≤ F → i < p → p ≤ n → b + (L ++ acc).length + (if v then 1 else 0) ≤ p → qRw w0 O u p 0 (b + (L ++ acc).length) → qSt w0 O b u (L ++ acc) → ∃ u', zlp (fun (k : Int32 × Int32 × zWd → Option (Unit × zWd)) (q : Int32 × Int32 × zWd) => mX4_readEither_9b ce cp 216 oI k q.1 q.2.1 q.2.2) F ((if v = true then (1 : Int32) else 0), nI i, u) = some ((), u') ∧ qRo w0 O b u' L (qFl P (w0 13) n m v acc p) := by
  have hn := ht.2.1
  have hO := ht.2.2.2.2
  intro m
  induction m with
  | zero => intro v i acc p u F h1 h2 h3 h4; omega
  | succ m ih =>
    intro v i acc p u F h1 h2 h3 h4 h5 hR hS
    obtain ⟨F, rfl⟩ : ∃ F', F = F' + 1 := ⟨F - 1, by omega⟩
    obtain ⟨F2, hF2⟩ : ∃ F', F = F' + 1 := ⟨F - 1, by omega⟩
    rw [zlp_1]
    show ∃ u', mX4_readEither_9b ce cp 216 oI (zlp (fun (k : Int32 × Int32 × zWd → Option (Unit × zWd)) (q : Int32 × Int32 × zWd) => mX4_readEither_9b ce cp 216 oI k q.1 q.2.1 q.2.2) F) (if v = true then (1 : Int32) else 0) (nI i) u = some ((), u') ∧ _
    unfold mX4_readEither_9b qFl
    rw [if_neg (show ¬ (120 : Int32) ≤ nI i from nI_ge (b := 120) (by omega) (by decide)), c_take0 ht hR (by omega) (by decide)]
    by_cases e : qB (w0 13) n p = 38
    · rw [if_pos e, if_pos e, zcl_s, if_neg (show ¬ (1 : Int32) = 0 by decide)]
      have hpn := qB_in e (by decide)
      obtain ⟨u2, m1, m2⟩ := hc (zup u 216 2 (nI (p + 1))) (p + 1) (L ++ acc) (hR.pl hO (p + 1)) (hS.zu hO _ _) (by omega) (by omega)
      rw [m1, zcl_s]
      match e2 : P (p + 1) with
      | (p', some l) =>
        have g1 := hP (p + 1) l (by rw [e2])
        have g2 := hL (p + 1) l (by rw [e2])
        rw [e2] at m2 g1 g2
        obtain ⟨m3, m4⟩ := m2
        simp only [List.length_append] at g1 g2 h5
        obtain ⟨u3, a1, _, a3⟩ := c_add (b := b) ht m3 9 0
        rw [c_gg ht m3, c_o ht m3, a1, zcl_s]
        obtain ⟨a4, a5⟩ := a3 (L ++ acc ++ l) (by simp only [List.length_append]; omega) rfl m4
        unfold mX4_readEither_72
        rw [← nI_succ]
        rw [show (9 : Int32) * 1000 + 0 = 9000 by decide, List.append_assoc, List.append_assoc, ← List.append_assoc acc] at a5
        have e5 : b + (L ++ acc ++ l).length + 1 = b + (L ++ (acc ++ l ++ [9000])).length := by simp only [List.length_append, List.length_cons, List.length_nil]; omega
        rw [e5] at a4
        exact ih v (i + 1) (acc ++ l ++ [9000]) p' u3 F (by omega) (by omega) (by omega) g1.2.2 (by rw [← e5]; simp only [List.length_append]; omega) a4 a5
      | (p', none) =>
        rw [e2] at m2
        obtain ⟨s', m3⟩ := m2
        obtain ⟨u3, a1, ⟨s2, a2⟩, _⟩ := c_add (b := b) ht m3 9 0
        rw [c_gg ht m3, c_o ht m3, a1, zcl_s]
        unfold mX4_readEither_72
        rw [hF2, zlp_1]
        exact c_9w ht a2 _ _ _
    · rw [if_neg e, if_neg e, zcl_s, if_pos rfl, c_take0 ht hR (by omega) (by decide)]
      by_cases e3 : qB (w0 13) n p = 124
      · rw [if_pos e3, if_pos e3, zcl_s, if_neg (show ¬ (1 : Int32) = 0 by decide)]
        have hpn := qB_in e3 (by decide)
        -- after the step
        have go : ∀ acc2 u4, b + (L ++ acc2).length ≤ p → qRw w0 O u4 (p + 1) 0 (b + (L ++ acc2).length) → qSt w0 O b u4 (L ++ acc2) → ∃ u', mX4_readEither_65 ce cp (zlp (fun (k : Int32 × Int32 × zWd → Option (Unit × zWd)) (q : Int32 × Int32 × zWd) => mX4_readEither_9b ce cp 216 oI k q.1 q.2.1 q.2.2) F) 216 oI (nI i) u4 = some ((), u') ∧ qRo w0 O b u' L (match P (p + 1) with | (p', some l) => qFl P (w0 13) n m true (acc2 ++ l) p' | (p', none) => (p', none)) := by
          intro acc2 u4 k1 k2 k3
          unfold mX4_readEither_65
          obtain ⟨u2, m1, m2⟩ := hc u4 (p + 1) (L ++ acc2) k2 k3 (by omega) (by omega)
          rw [m1, zcl_s]
          match e2 : P (p + 1) with
          | (p', some l) =>
            have g1 := hP (p + 1) l (by rw [e2])
            have g2 := hL (p + 1) l (by rw [e2])
            rw [e2] at m2 g1 g2
            obtain ⟨m3, m4⟩ := m2
            simp only at g1 g2
            unfold mX4_readEither_72
            rw [← nI_succ]
            rw [List.append_assoc] at m3 m4
            exact ih true (i + 1) (acc2 ++ l) p' u2 F (by omega) (by omega) (by omega) g1.2.2 (by rw [← List.append_assoc, List.length_append, if_pos rfl]; omega) m3 m4
          | (p', none) =>
            rw [e2] at m2
            obtain ⟨s', m3⟩ := m2
            unfold mX4_readEither_72
            rw [hF2, zlp_1]
            exact c_9w ht m3 _ _ _
        have hR1 := hR.pl hO (p + 1)
        have hS1 := hS.zu hO 2 (nI (p + 1))
        cases v with
        | false =>
          rw [if_pos (show (if false = true then (1 : Int32) else 0) = 0 from rfl), if_neg (show ¬ false = true by decide)]
          exact go acc _ (by omega) hR1 hS1
        | true =>
          rw [if_neg (show ¬ (if true = true then (1 : Int32) else 0) = 0 by decide), if_pos (show true = true from rfl)]
          rw [if_pos (show true = true from rfl)] at h5
          obtain ⟨u3, a1, _, a3⟩ := c_add (b := b) ht hR1 10 0
          rw [c_gg ht hR1, c_o ht hR1, a1, zcl_s]
          obtain ⟨a4, a5⟩ := a3 (L ++ acc) (by omega) rfl hS1
          rw [show (10 : Int32) * 1000 + 0 = 10000 by decide, List.append_assoc] at a5
          have e5 : b + (L ++ acc).length + 1 = b + (L ++ (acc ++ [10000])).length := by simp only [List.length_append, List.length_cons, List.length_nil]; omega
          rw [e5] at a4
          exact go (acc ++ [10000]) u3 (by omega) a4 a5
      · rw [if_neg e3, if_neg e3, zcl_s, if_pos rfl]
        unfold mX4_readEither_78 mX4_readEither_92
        cases v with
        | false =>
          rw [if_pos (show (if false = true then (1 : Int32) else 0) = 0 from rfl), if_neg (show ¬ false = true by decide)]
          exact ⟨u, rfl, hR, hS⟩
        | true =>
          rw [if_neg (show ¬ (if true = true then (1 : Int32) else 0) = 0 by decide), if_pos (show true = true from rfl)]
          rw [if_pos (show true = true from rfl)] at h5
          obtain ⟨u3, a1, _, a3⟩ := c_add (b := b) ht hR 10 0
          rw [c_gg ht hR, c_o ht hR, a1, zcl_s]
          obtain ⟨a4, a5⟩ := a3 (L ++ acc) (by omega) rfl hS
          rw [show (10 : Int32) * 1000 + 0 = 10000 by decide, List.append_assoc] at a5
          have e5 : b + (L ++ acc).length + 1 = b + (L ++ (acc ++ [10000])).length := by simp only [List.length_append, List.length_cons, List.length_nil]; omega
          rw [e5] at a4
          exact ⟨u3, rfl, a4, a5⟩
/-- an E, given its parts -/
theorem c_eith (ht : qTp0 w0 O n) (hP : ∀ p, qGd n h p (P p)) (hL : ∀ p, qLg p (P p)) (hc : ∀ u p L, qRw w0 O u p 0 (b + L.length) → qSt w0 O b u L → p ≤ n → b + L.length ≤ p → ∃ u', cp 216 oI u = some ((), u') ∧ qRo w0 O b u' L (P p)) (hR : qRw w0 O u p 0 (b + L.length)) (hS : qSt w0 O b u L) (hp : p ≤ n) (hb : b + L.length ≤ p) : ∃ u', mX4_readEitherb ce cp 216 oI u = some ((), u') ∧ qRo w0 O b u' L (qSome P (w0 13) n p) := by
  have hn := ht.2.1
  unfold mX4_readEitherb mX4_readEither_9
  obtain ⟨u2, m1, m2⟩ := hc u p L hR hS hp hb
  rw [m1, zcl_s, qSome_fl hn hP]
  match e2 : P p with
  | (p', some l) =>
    have g1 := hP p l (by rw [e2])
    have g2 := hL p l (by rw [e2])
    rw [e2] at m2 g1 g2
    obtain ⟨m3, m4⟩ := m2
    simp only at g1 g2
    exact c_loop ht hP hL hc 130 false 0 l p' u2 zFU (by omega) (by decide) (by omega) g1.2.2 (by rw [List.length_append, if_neg (by decide)]; omega) m3 m4
  | (p', none) =>
    rw [e2] at m2
    obtain ⟨s', m3⟩ := m2
    rw [show zFU = 99999 + 1 from rfl, zlp_1]
    exact c_9w ht m3 _ _ _
/-- a part -/
theorem c_part (ht : qTp0 w0 O n) : ∀ d o N, 7 = d + o → o ≤ 5 → 2 * d + 2 ≤ N → ∀ u p L, qRw w0 O u p 0 (b + L.length) → qSt w0 O b u L → p ≤ n → b + L.length ≤ p → ∃ u', mGR N 1 216 (nI o) u = some ((), u') ∧ qRo w0 O b u' L (qPart (w0 13) n d o p) := by
  have hn := ht.2.1
  have hO := ht.2.2.2.2
  intro d
  induction d with
  | zero => intro o N h1 h2; omega
  | succ d ih =>
    intro o N h1 h2 h3 u p L hR hS hp hb
    obtain ⟨N, rfl⟩ : ∃ m, N = m + 1 + 1 := ⟨N - 2, by omega⟩
    show ∃ u', mX4_readPartb (mGR (N + 1) 0) (mGR (N + 1) 1) 216 (nI o) u = some ((), u') ∧ _
    unfold mX4_readPartb qPart
    rw [c_now0 ht hR (by omega), zcl_s]
    have hR1 := hR.pl hO (p + 1)
    have hS1 := hS.zu hO 2 (nI (p + 1))
    have no : ∀ c2 : 5 ≤ o, ¬ nI o < 5 := fun c2 => by rw [show (5 : Int32) = nI 5 from rfl, zlt, nIi (by omega), nIi (by omega)]; omega
    have yes : ∀ c2 : ¬ 5 ≤ o, nI o < 5 := fun c2 => by rw [show (5 : Int32) = nI 5 from rfl]; exact nI_lt (by omega) (by omega)
    by_cases c1 : qB (w0 13) n p = 33
    · rw [if_pos c1, if_pos c1]
      have hpn := qB_in c1 (by decide)
      unfold mX4_readPart_22 mX4_readPart_82
      by_cases c2 : 5 ≤ o
      · rw [if_pos c2, if_neg (no c2), zgd_t zB1, zbn_e]
        exact ⟨_, rfl, _, hR.fl hO 1⟩
      rw [if_neg c2, if_pos (yes c2), zbn_e, hR.2.2.2.2.1, ← nI_succ, if_pos c1, ← nI_succ]
      obtain ⟨u2, m1, m2⟩ := ih (o + 1) (N + 1) (by omega) (by omega) (by omega) _ (p + 1) L hR1 hS1 (by omega) (by omega)
      rw [m1, zcl_s]
      match e2 : qPart (w0 13) n d (o + 1) (p + 1) with
      | (p', some l) =>
        have g1 := qGd_part (f := w0 13) (n := n) d (o + 1) (p + 1) l (by rw [e2])
        have g2 := qLg_part (f := w0 13) (n := n) d (o + 1) (p + 1) l (by rw [e2])
        rw [e2] at m2 g1 g2
        obtain ⟨m3, m4⟩ := m2
        simp only at g1 g2
        obtain ⟨u3, a1, _, a3⟩ := c_add (b := b) ht m3 8 0
        rw [c_gg ht m3, c_o ht m3, a1, zcl_s]
        obtain ⟨a4, a5⟩ := a3 (L ++ l) (by rw [List.length_append]; omega) rfl m4
        rw [show (8 : Int32) * 1000 + 0 = 8000 by decide, List.append_assoc] at a5
        have e5 : b + (L ++ l).length + 1 = b + (L ++ (l ++ [8000])).length := by simp only [List.length_append, List.length_cons, List.length_nil]; omega
        rw [e5] at a4
        exact ⟨u3, rfl, a4, a5⟩
      | (p', none) =>
        rw [e2] at m2
        obtain ⟨s', m3⟩ := m2
        obtain ⟨u3, a1, a2, _⟩ := c_add (b := b) ht m3 8 0
        rw [c_gg ht m3, c_o ht m3, a1, zcl_s]
        exact ⟨u3, rfl, a2⟩
    rw [if_neg c1, if_neg c1]
    by_cases c3 : qB (w0 13) n p = 40
    · rw [if_pos c3, if_pos c3]
      have hpn := qB_in c3 (by decide)
      unfold mX4_readPart_22 mX4_readPart_82
      by_cases c2 : 5 ≤ o
      · rw [if_pos c2, if_neg (no c2), zgd_t zB1, zbn_e]
        exact ⟨_, rfl, _, hR.fl hO 1⟩
      rw [if_neg c2, if_pos (yes c2), zbn_e, hR.2.2.2.2.1, ← nI_succ, if_neg c1, ← nI_succ]
      obtain ⟨u2, m1, m2⟩ := c_eith (ce := mGR N 0) ht (qGd_part (f := w0 13) (n := n) d (o + 1)) (qLg_part (f := w0 13) (n := n) d (o + 1)) (ih (o + 1) N (by omega) (by omega) (by omega)) hR1 hS1 (by omega) (by omega)
      rw [show mGR (N + 1) 0 216 (nI (o + 1)) (zup u 216 2 (nI (p + 1))) = some ((), u2) from m1, zcl_s]
      match e2 : qSome (qPart (w0 13) n d (o + 1)) (w0 13) n (p + 1) with
      | (p', some l) =>
        have g1 := qGd_some (f := w0 13) (n := n) (qGd_part (f := w0 13) (n := n) d (o + 1)) (p + 1) l (by rw [e2])
        rw [e2] at m2 g1
        obtain ⟨m3, m4⟩ := m2
        simp only at g1
        rw [c_need0 ht m3 (by omega) (by decide)]
        by_cases c4 : qB (w0 13) n p' = 41
        · simp only [if_pos c4, zcl_s]
          exact ⟨_, rfl, m3.pl hO _, m4.zu hO _ _⟩
        · simp only [if_neg c4, zcl_s]
          exact ⟨_, rfl, _, m3.fl hO 1⟩
      | (p', none) =>
        rw [e2] at m2
        obtain ⟨s', m3⟩ := m2
        rw [c_need1 m3, zcl_s]
        exact ⟨_, rfl, _, m3.fl hO 1⟩
    rw [if_neg c3, if_neg c3]
    obtain ⟨u2, m1, m2⟩ := c_test ht hR hS hp hb
    rw [m1, zcl_s]
    exact ⟨u2, rfl, m2⟩
/-- an E of a clause, from its first byte -/
theorem c_E (ht : qTp0 w0 O n) (hR : qRw w0 O u p 0 (b + L.length)) (hS : qSt w0 O b u L) (hp : p ≤ n) (hb : b + L.length ≤ p) : ∃ u', mX4_readEither 216 0 u = some ((), u') ∧ qRo w0 O b u' L (qE (w0 13) n p) := by
  exact c_eith (ce := mGR 39 0) (cp := mGR 39 1) (oI := nI 0) ht (qGd_part (f := w0 13) (n := n) 7 0) (qLg_part (f := w0 13) (n := n) 7 0) (c_part ht 7 0 39 (by omega) (by omega) (by omega)) hR hS hp hb
/-- after a failure: nothing but junk steps -/
theorem c_E1 (ht : qTp0 w0 O n) (hR : qRw w0 O u p 1 s) : ∃ u', mX4_readEither 216 0 u = some ((), u') ∧ ∃ s', qRw w0 O u' p 1 s' := by
  show ∃ u', mX4_readEitherb (mGR 39 0) (mGR 39 1) 216 0 u = some ((), u') ∧ _
  unfold mX4_readEitherb mX4_readEither_9
  show ∃ u', zcl (mX4_readPartb (mGR 38 0) (mGR 38 1) 216 0 u) _ = some ((), u') ∧ _
  unfold mX4_readPartb
  rw [c_now1 hR]
  obtain ⟨u2, m1, m2⟩ := c_test1 ht hR
  rw [zcl_s, if_neg (by decide), if_neg (by decide), m1, zcl_s, zcl_s, show zFU = 99999 + 1 from rfl, zlp_1]
  exact c_9w ht m2 _ _ _
end CP
