/-! the class reads a text -/
/-- the clauses in ORDER's cells, b steps in all -/
def qCk (u : zWd) (O : Nat) (cs : List qCl1) (b : Nat) : Prop := u O 1 = nI cs.length ∧ u O 6 = nI b ∧ ∀ i, i < cs.length → ∃ c, cs[i]? = some c ∧ u (O + 1) i = c.1 ∧ u (O + 2) i = c.2.1 ∧ ∃ b0, u (O + 3) i = nI b0 ∧ u (O + 4) i = nI (b0 + c.2.2.2.length) ∧ b0 + c.2.2.2.length ≤ b ∧ ∀ j, j < c.2.2.2.length → u (O + 5) (b0 + j) = c.2.2.2.getD j 0
def qRr (w0 : zWd) (O : Nat) (u : zWd) (p : Nat) (e : Int32) (cs : List qCl1) (b : Nat) : Prop := (∀ a, a ≠ 216 → (a < O ∨ O + 5 < a) → u a = w0 a) ∧ u O 0 = w0 O 0 ∧ u 216 0 = 12 ∧ u 216 1 = nI O ∧ u 216 2 = nI p ∧ u 216 3 = e ∧ (e = 0 → qCk u O cs b ∧ b ≤ p)
section CC
variable {w0 u u2 : zWd} {O n p p' b s i pe : Nat} {cs : List qCl1} {l : List Int32} {kd x e : Int32}
theorem qRr.rw (h : qRr w0 O u p 0 cs b) (hp : p ≤ 120) : qRw u O u p 0 b := by
  obtain ⟨h1, h2, h3, h4, h5, h6, h7⟩ := h
  have := h7 rfl
  exact ⟨fun _ _ _ _ => rfl, fun _ _ => rfl, h3, h4, h5, h6, this.1.2.1, by omega⟩
theorem qRr.tp (ht : qTp0 w0 O n) (h : qRr w0 O u p e cs b) : qTp0 u O n ∧ u 13 = w0 13 := by
  obtain ⟨t1, t2, t3, t4, t5⟩ := ht
  exact ⟨⟨by rw [h.1 12 (by omega) (by omega)]; exact t1, t2, t3, t4, t5⟩, h.1 13 (by omega) (by omega)⟩
theorem c_142 (ht : qTp0 w0 O n) (h0 : u 216 0 = 12) (h2 : u 216 2 = nI p) (h3 : u 216 3 = e) (h12 : u 12 = w0 12) (hp : p ≤ n) : mX4_read_142 216 u = some (if e = 0 ∧ p = n then -1 else nI p, zup u 12 0 0) := by
  obtain ⟨t1, t2, t3, t4, t5⟩ := ht
  unfold mX4_read_142 mX4_read_163 mX4_read_171
  simp only [h0, h2, h3, zgd_t (show ¬ (12 : Int32) = 0 by decide), zgd_t z9, zgd_t z9b, n12, h12, t1, zbn_e]
  by_cases c : e = 0
  · rw [if_pos c]
    by_cases k : p = n
    · rw [if_pos (nI_le (by omega) (by omega)), if_pos ⟨c, k⟩]
    · rw [if_neg (nI_ge (by omega) (by omega)), if_neg (fun q => k q.2)]
  · rw [if_neg c, if_neg (fun q => c q.1)]
/-- a clause is added -/
theorem c_94 (ht : qTp0 w0 O n) (hcs : cs.length ≤ 7) (hq : qRr w0 O u p 0 cs b) (h : qRw u O u2 p' 0 (b + l.length)) (hS : qSt u O b u2 l) (hb : b + l.length ≤ p') (K : Int32 × zWd → Option (Int32 × zWd)) (v4 : Int32) : ∃ u', mX4_read_94 K 216 v4 kd x (nI b) u2 = (if v4 = 7 then mX4_read_142 216 u' else zcl (mX4_take 216 59 u') fun r26 w27 => if r26 = 0 then mX4_read_142 216 w27 else K (v4 + 1, w27)) ∧ qRr w0 O u' p' 0 (cs ++ [(kd, x, pe, l)]) (b + l.length) := by
  have hO := ht.2.2.2.2
  have hO1 := ht.2.2.2.1
  obtain ⟨ht2, e13⟩ := hq.tp ht
  obtain ⟨q1, q2, q3, q4, q5, q6, q7⟩ := hq
  obtain ⟨⟨k1, k2, k3⟩, hbp⟩ := q7 rfl
  have g : ∀ X : Option (Int32 × zWd), zgd (¬ u2 216 1 = 0) (zgd (zShp (u2 216 1).toNatClampNeg = (2, 8)) X) = X := fun X => c_g (ρ := Int32) ht2 h (fun _ => X)
  have eo := c_o ht2 h
  obtain ⟨h1, h2, h3, h4, h5, h6, h7, h8⟩ := h
  have e1 : u2 O 1 = nI cs.length := by rw [h2 1 (by omega)]; exact k1
  have z1 : ∀ (w : zWd) j v, zup w (O + 1) j v O = w O := fun w j v => zpE w j v (by omega)
  have z2 : ∀ (w : zWd) j v, zup w (O + 2) j v O = w O := fun w j v => zpE w j v (by omega)
  have z3 : ∀ (w : zWd) j v, zup w (O + 3) j v O = w O := fun w j v => zpE w j v (by omega)
  have z4 : ∀ (w : zWd) j v, zup w (O + 4) j v O = w O := fun w j v => zpE w j v (by omega)
  have hz : zin (nI cs.length) 8 := vp_in_nI (by omega) (by decide)
  have hm : mX2_addClause O kd x (nI b) u2 = some ((), zup (zup (zup (zup (zup u2 (O + 1) cs.length kd) (O + 2) cs.length x) (O + 3) cs.length (nI b)) (O + 4) cs.length (nI (b + l.length))) O 1 (nI (cs.length + 1))) := by
    unfold mX2_addClause mX2_addClause_62
    rw [e1, if_neg (show ¬ (8 : Int32) ≤ nI cs.length from nI_ge (b := 8) (by omega) (by decide))]
    simp only [z1, z2, z3, z4, e1, h7, zgd_t hz, zbn_e, nI_clamp (show cs.length < 2 ^ 31 by omega), nI_succ]
  generalize hu : zup (zup (zup (zup (zup u2 (O + 1) cs.length kd) (O + 2) cs.length x) (O + 3) cs.length (nI b)) (O + 4) cs.length (nI (b + l.length))) O 1 (nI (cs.length + 1)) = u' at hm
  refine ⟨u', ?_, ?_⟩
  · unfold mX4_read_94
    rw [h6, if_pos rfl, g, eo, hm, zcl_s]
  · have f0 : ∀ a, a ≠ O → a ≠ O + 1 → a ≠ O + 2 → a ≠ O + 3 → a ≠ O + 4 → u' a = u2 a := fun a a0 a1 a2 a3 a4 => by rw [← hu, zpE _ _ _ a0, zpE _ _ _ a4, zpE _ _ _ a3, zpE _ _ _ a2, zpE _ _ _ a1]
    have fO : u' O = upd (u2 O) 1 (nI (cs.length + 1)) := by rw [← hu, qup_s, z4, z3, z2, z1]
    have f1 : u' (O + 1) = upd (u2 (O + 1)) cs.length kd := by rw [← hu, zpE _ _ _ (show O + 1 ≠ O by omega), zpE _ _ _ (show O + 1 ≠ O + 4 by omega), zpE _ _ _ (show O + 1 ≠ O + 3 by omega), zpE _ _ _ (show O + 1 ≠ O + 2 by omega), qup_s]
    have f2 : u' (O + 2) = upd (u2 (O + 2)) cs.length x := by rw [← hu, zpE _ _ _ (show O + 2 ≠ O by omega), zpE _ _ _ (show O + 2 ≠ O + 4 by omega), zpE _ _ _ (show O + 2 ≠ O + 3 by omega), qup_s, zpE _ _ _ (show O + 2 ≠ O + 1 by omega)]
    have f3 : u' (O + 3) = upd (u2 (O + 3)) cs.length (nI b) := by rw [← hu, zpE _ _ _ (show O + 3 ≠ O by omega), zpE _ _ _ (show O + 3 ≠ O + 4 by omega), qup_s, zpE _ _ _ (show O + 3 ≠ O + 2 by omega), zpE _ _ _ (show O + 3 ≠ O + 1 by omega)]
    have f4 : u' (O + 4) = upd (u2 (O + 4)) cs.length (nI (b + l.length)) := by rw [← hu, zpE _ _ _ (show O + 4 ≠ O by omega), qup_s, zpE _ _ _ (show O + 4 ≠ O + 3 by omega), zpE _ _ _ (show O + 4 ≠ O + 2 by omega), zpE _ _ _ (show O + 4 ≠ O + 1 by omega)]
    have f5 : u' (O + 5) = u2 (O + 5) := f0 _ (by omega) (by omega) (by omega) (by omega) (by omega)
    have f6 : u' 216 = u2 216 := f0 _ (by omega) (by omega) (by omega) (by omega) (by omega)
    refine ⟨fun a a1 a2 => ?_, ?_, by rw [f6]; exact h3, by rw [f6]; exact h4, by rw [f6]; exact h5, by rw [f6]; exact h6, fun _ => ⟨⟨?_, ?_, fun i hi => ?_⟩, hb⟩⟩
    · rw [f0 a (by omega) (by omega) (by omega) (by omega) (by omega), h1 a a1 (by omega) (by omega)]
      exact q1 a a1 a2
    · rw [fO, qu_ne _ _ (by omega), h2 0 (by omega)]; exact q2
    · rw [fO, qu_eq, List.length_append]; rfl
    · rw [fO, qu_ne _ _ (by omega)]; exact h7
    · simp only [List.length_append, List.length_cons, List.length_nil] at hi
      by_cases ei : i = cs.length
      · refine ⟨(kd, x, pe, l), by rw [ei]; simp, by rw [f1, ei, qu_eq], by rw [f2, ei, qu_eq], b, by rw [f3, ei, qu_eq], by rw [f4, ei, qu_eq], Nat.le_refl _, fun j hj => ?_⟩
        rw [f5]; exact hS.2 j hj
      · obtain ⟨c, c1, c2, c3, b0, c4, c5, c6, c7⟩ := k3 i (by omega)
        refine ⟨c, by rw [List.getElem?_append_left (by omega)]; exact c1, ?_, ?_, b0, ?_, ?_, by omega, fun j hj => ?_⟩
        · rw [f1, qu_ne _ _ ei, h1 (O + 1) (by omega) (by omega) (by omega)]; exact c2
        · rw [f2, qu_ne _ _ ei, h1 (O + 2) (by omega) (by omega) (by omega)]; exact c3
        · rw [f3, qu_ne _ _ ei, h1 (O + 3) (by omega) (by omega) (by omega)]; exact c4
        · rw [f4, qu_ne _ _ ei, h1 (O + 4) (by omega) (by omega) (by omega)]; exact c5
        · rw [f5, hS.1 (b0 + j) (by omega)]; exact c7 j hj
/-- a fault -/
theorem c_94w (ht : qTp0 w0 O n) (hq : qRr w0 O u p 0 cs b) (h : qRw u O u2 p' 1 s) (hp : p' ≤ n) (K : Int32 × zWd → Option (Int32 × zWd)) (v4 y : Int32) : ∃ u', mX4_read_94 K 216 v4 kd x y u2 = some (nI p', zup u' 12 0 0) ∧ qRr w0 O u' p' 1 cs b := by
  have hO := ht.2.2.2.2
  have hO1 := ht.2.2.2.1
  obtain ⟨q1, q2, q3, q4, q5, q6, q7⟩ := hq
  obtain ⟨h1, h2, h3, h4, h5, h6, h7, h8⟩ := h
  refine ⟨u2, ?_, fun a a1 a2 => ?_, by rw [h2 0 (by omega)]; exact q2, h3, h4, h5, h6, fun q => absurd q (by decide)⟩
  · unfold mX4_read_94
    rw [h6, if_neg (by decide), c_142 ht h3 h5 h6 (by rw [h1 12 (by omega) (by omega) (by omega)]; exact q1 12 (by omega) (by omega)) hp, if_neg (fun q => absurd q.1 (by decide))]
  · rw [h1 a a1 (by omega) (by omega)]; exact q1 a a1 a2
/-- what a clause leaves -/
def qTn (w0 : zWd) (O n : Nat) (cs : List qCl1) (K : Int32 × zWd → Option (Int32 × zWd)) (v4 : Int32) (X : Option (Int32 × zWd)) (r : Nat × Option qCl1) : Prop := match r with
  | (p', none) => ∃ u', X = some (nI p', zup u' 12 0 0) ∧ ∃ cs b, qRr w0 O u' p' 1 cs b
  | (p', some c) => ∃ u' b', X = (if v4 = 7 then mX4_read_142 216 u' else zcl (mX4_take 216 59 u') fun r26 w27 => if r26 = 0 then mX4_read_142 216 w27 else K (v4 + 1, w27)) ∧ qRr w0 O u' p' 0 (cs ++ [c]) b'
theorem c_67 (ht : qTp0 w0 O n) (hcs : cs.length ≤ 7) (hq : qRr w0 O u p 0 cs b) (h : qRw u O u2 p' 0 b) (hS : qSt u O b u2 []) (hb : b ≤ p') (hp : p' ≤ n) (K : Int32 × zWd → Option (Int32 × zWd)) (v4 : Int32) (hi : i < 6) : qTn w0 O n cs K v4 (mX4_read_67 K 216 v4 (nI i) x u2) (if i = 0 then (if qB (w0 13) n p' = 32 then (match qE (w0 13) n (p' + 1) with | (p3, some l) => (p3, some (0, x, p' + 1, l)) | (p3, none) => (p3, none)) else (p', none)) else (p', some (nI i, x, 0, []))) := by
  have hO := ht.2.2.2.2
  have hn := ht.2.1
  obtain ⟨ht2, e13⟩ := hq.tp ht
  have g : ∀ X : Option (Int32 × zWd), zgd (¬ u2 216 1 = 0) (zgd (zShp (u2 216 1).toNatClampNeg = (2, 8)) X) = X := fun X => c_g (ρ := Int32) ht2 h (fun _ => X)
  have eo := c_o ht2 h
  unfold mX4_read_67
  rw [g, zbn_e, eo, h.2.2.2.2.2.2.1]
  by_cases c0 : i = 0
  · subst c0
    rw [if_pos (show nI 0 = 0 from rfl), if_pos rfl, c_need0 ht2 h (by omega) (by decide), e13]
    by_cases c32 : qB (w0 13) n p' = 32
    · have hpn := qB_in c32 (by decide)
      rw [if_pos c32, if_pos c32, zcl_s]
      obtain ⟨u3, m1, m2⟩ := c_E (b := b) (L := []) ht2 (show qRw u O (zup u2 216 2 (nI (p' + 1))) (p' + 1) 0 (b + [].length) from h.pl hO (p' + 1)) (hS.zu hO _ _) (by omega) (by show b + 0 ≤ _; omega)
      rw [m1, zcl_s]
      rw [e13] at m2
      have gE := qIw_E (f := w0 13) hn (p' + 1) (by omega)
      match e3 : qE (w0 13) n (p' + 1) with
      | (p3, some l) =>
        rw [e3] at m2 gE
        have gl := qLg_some (f := w0 13) (n := n) (fun q => qLg_part 7 0 q) (p' + 1) l (by show (qE (w0 13) n (p' + 1)).2 = _; rw [e3])
        rw [show qSome (qPart (w0 13) n 7 0) (w0 13) n (p' + 1) = qE (w0 13) n (p' + 1) from rfl, e3] at gl
        simp only at gl
        obtain ⟨m3, m4⟩ := m2
        rw [List.nil_append] at m3 m4
        obtain ⟨u4, a1, a2⟩ := c_94 (kd := nI 0) (x := x) (pe := p' + 1) ht hcs hq m3 m4 (by omega) K v4
        exact ⟨u4, _, a1, a2⟩
      | (p3, none) =>
        rw [e3] at m2 gE
        obtain ⟨s', m3⟩ := m2
        obtain ⟨u4, a1, a2⟩ := c_94w (kd := nI 0) (x := x) ht hq m3 gE K v4 (nI b)
        exact ⟨u4, a1, _, _, a2⟩
    · rw [if_neg c32, if_neg c32, zcl_s]
      obtain ⟨u3, m1, s', m2⟩ := c_E1 ht2 (h.fl hO 1)
      rw [m1, zcl_s]
      obtain ⟨u4, a1, a2⟩ := c_94w (kd := nI 0) (x := x) ht hq m2 hp K v4 (nI b)
      exact ⟨u4, a1, _, _, a2⟩
  · rw [if_neg (show ¬ nI i = 0 from fun q => c0 (by rw [show (0 : Int32) = nI 0 from rfl, nIe (by omega) (by omega)] at q; exact q)), if_neg c0]
    obtain ⟨u4, a1, a2⟩ := c_94 (l := []) (kd := nI i) (x := x) (pe := 0) ht hcs hq h hS hb K v4
    exact ⟨u4, _, a1, a2⟩
/-- .. with a fault already -/
theorem c_67w (ht : qTp0 w0 O n) (hq : qRr w0 O u p 0 cs b) (h : qRw u O u2 p' 1 s) (hp : p' ≤ n) (K : Int32 × zWd → Option (Int32 × zWd)) (v4 y : Int32) : ∃ u', mX4_read_67 K 216 v4 y x u2 = some (nI p', zup u' 12 0 0) ∧ ∃ cs b, qRr w0 O u' p' 1 cs b := by
  have hO := ht.2.2.2.2
  obtain ⟨ht2, e13⟩ := hq.tp ht
  have g : ∀ X : Option (Int32 × zWd), zgd (¬ u2 216 1 = 0) (zgd (zShp (u2 216 1).toNatClampNeg = (2, 8)) X) = X := fun X => c_g (ρ := Int32) ht2 h (fun _ => X)
  unfold mX4_read_67
  rw [g, zbn_e]
  by_cases c0 : y = 0
  · rw [if_pos c0, c_need1 h, zcl_s]
    obtain ⟨u3, m1, s', m2⟩ := c_E1 ht2 (h.fl hO 1)
    rw [m1, zcl_s]
    obtain ⟨u4, a1, a2⟩ := c_94w (kd := y) (x := x) ht hq m2 hp K v4 (u2 (u2 216 1).toNatClampNeg 6)
    exact ⟨u4, a1, _, _, a2⟩
  · rw [if_neg c0]
    obtain ⟨u4, a1, a2⟩ := c_94w (kd := y) (x := x) ht hq h hp K v4 (u2 (u2 216 1).toNatClampNeg 6)
    exact ⟨u4, a1, _, _, a2⟩
/-- a clause -/
theorem c_turn (ht : qTp0 w0 O n) (hcs : cs.length ≤ 7) (hq : qRr w0 O u p 0 cs b) (hp : p ≤ n) (K : Int32 × zWd → Option (Int32 × zWd)) : qTn w0 O n cs K (nI cs.length) (mX4_read_31b 216 K (nI cs.length) u) (qCl (w0 13) n p) := by
  have hO := ht.2.2.2.2
  have hn := ht.2.1
  obtain ⟨ht2, e13⟩ := hq.tp ht
  have hbp := (hq.2.2.2.2.2.2 rfl).2
  have h := hq.rw (by omega)
  have hS0 : qSt u O b u [] := ⟨fun _ _ => rfl, fun i hi => absurd hi (Nat.not_lt_zero i)⟩
  unfold mX4_read_31b
  rw [if_neg (show ¬ (8 : Int32) ≤ nI cs.length from nI_ge (b := 8) (by omega) (by decide))]
  obtain ⟨x, u1, m1, m2, m3⟩ := c_ws ht2 h (by omega) (fun r11 w14 => if r11 = (5 : Int32) then (zcl (mX4_readShare 216 w14) fun r15 w16 => mX4_read_67 K 216 (nI cs.length) r11 r15 w16) else (zcl (mX4_readNumber 216 w14) fun r28 w29 => mX4_read_67 K 216 (nI cs.length) r11 r28 w29))
  rw [m1]
  rw [e13] at m3
  have gW := qWs_in (f := w0 13) hp
  have hS1 : qSt u O b u1 [] := ⟨fun j _ => by rw [m2 _ (by omega)], fun i hi => absurd hi (Nat.not_lt_zero i)⟩
  unfold qCl
  match e1 : qWs (w0 13) n p with
  | (p1, none) =>
    rw [e1] at m3 gW
    simp only at m3 gW ⊢
    show qTn w0 O n cs K _ _ (p1, none)
    by_cases c5 : x = 5
    · rw [if_pos c5]
      unfold mX4_readShare mX4_readShare_17
      rw [c_now1 m3, zcl_s, if_pos (by decide), zgd_t zB1, zbn_e, zcl_s]
      exact c_67w ht hq (m3.fl hO 1) gW.1 K _ _
    · rw [if_neg c5]
      obtain ⟨v, u3, g1, g2⟩ := c_num1 hO m3
      rw [g1, zcl_s]
      exact c_67w ht hq g2 gW.1 K _ _
  | (p1, some i) =>
    rw [e1] at m3 gW
    obtain ⟨rfl, hi, m4⟩ := m3
    obtain ⟨gW1, gW2⟩ := gW
    have gW3 := (gW2 i rfl).2
    simp only at gW1 gW3 ⊢
    by_cases c5 : i = 5
    · subst c5
      rw [if_pos (show nI 5 = 5 from rfl), if_pos rfl]
      unfold mX4_readShare mX4_readShare_17 qShr
      rw [c_now0 ht2 m4 (by omega), zcl_s, e13]
      by_cases k1 : qB (w0 13) n p1 < 48
      · rw [if_pos k1, zgd_t zB1, zbn_e, zcl_s, if_neg (show ¬ (48 ≤ qB (w0 13) n p1 ∧ qB (w0 13) n p1 ≤ 50) from fun q => by have := q.1; rw [zle] at this; rw [zlt] at k1; omega)]
        exact c_67w ht hq (m4.fl hO 1) gW1 K _ _
      rw [if_neg k1]
      by_cases k2 : qB (w0 13) n p1 ≤ 50
      · have hp1 : p1 < n := by
          by_cases q : p1 < n
          · exact q
          · have : qB (w0 13) n p1 = -1 := by unfold qB; rw [if_neg q]
            rw [this] at k1; exact absurd (by decide) k1
        rw [if_pos k2, zbn_e, zcl_s, if_pos (show 48 ≤ qB (w0 13) n p1 ∧ qB (w0 13) n p1 ≤ 50 from ⟨by rw [zle]; rw [zlt] at k1; omega, k2⟩), m4.2.2.2.2.1, ← nI_succ]
        exact c_67 (i := 5) ht hcs hq (m4.pl hO (p1 + 1)) (hS1.zu hO _ _) (by omega) (by omega) K _ (by omega)
      · rw [if_neg k2, zgd_t zB1, zbn_e, zcl_s, if_neg (show ¬ (48 ≤ qB (w0 13) n p1 ∧ qB (w0 13) n p1 ≤ 50) from fun q => k2 q.2)]
        exact c_67w ht hq (m4.fl hO 1) gW1 K _ _
    · rw [if_neg (show ¬ nI i = 5 from fun q => c5 (by rw [show (5 : Int32) = nI 5 from rfl, nIe (by omega) (by omega)] at q; exact q)), if_neg c5]
      obtain ⟨v, u3, g1, g2, g3⟩ := c_num (b := b) ht2 m4 (by omega)
      rw [g1, zcl_s]
      rw [e13] at g3
      have gN := qNum_in (f := w0 13) gW1
      match e2 : qNum (w0 13) n p1 with
      | (p2, none) =>
        rw [e2] at g3 gN
        exact c_67w ht hq g3 gN K _ _
      | (p2, some y) =>
        rw [e2] at g3 gN
        obtain ⟨rfl, g4⟩ := g3
        have := (qNum_rg e2).2.1
        exact c_67 ht hcs hq g4 (g2 [] hS1) (by omega) gN K _ hi
end CC
