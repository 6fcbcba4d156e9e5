/-! the model reads a text -/
section HO
variable {w0 B w : zWd} {a o p n k q : Nat} {T e v : Int32}
theorem qMd.of (h : qMb w0 B a k) (hk : k ≤ 7) : qMd w0 B a := ⟨h.1, fun j hj => h.2 j (hj k hk)⟩
theorem qMd.tr {C : zWd} (h : qMd w0 B a) (g : qMd B C a) : qMd w0 C a := ⟨fun c hc => (g.1 c hc).trans (h.1 c hc), fun j hj => (g.2 j hj).trans (h.2 j hj)⟩
theorem qTx.md (ht : qTx w0 a n) (ha : a ≤ 10) (h : qMd w0 B a) : qTx B a n ∧ ∀ p, qB (qFx B a) n p = qB (qFx w0 a) n p := by
  refine ⟨⟨ht.1, ht.2.1, by rw [h.2 _ (fun k hk => by unfold qPut; omega)]; exact ht.2.2⟩, fun p => ?_⟩
  unfold qB qFx
  by_cases c : p < n
  · rw [if_pos c, if_pos c, h.2 _ (fun k hk => by unfold qPut; have := ht.2.1; omega)]
  · rw [if_neg c, if_neg c]
/-- the end: wrong or not -/
theorem h_170 (ht : qTx B a n) (ha : a ≤ 10) (hp : p ≤ n) (h : qMs B a T o p e w) (he : zB e) : ∃ w', mX12_readsOrder_170 231 (nI a) w = some (if e = 0 ∧ p = n then 1 else 0, w') ∧ ∃ e2, qMs B a T o p e2 w' := by
  have e232 := h.1.1 232 (by decide)
  have hn := ht.2.1
  unfold mX12_readsOrder_170 mX12_readsOrder_195 mX12_readsOrder_200 mX12_readsOrder_215
  rw [show (252 : Int32) + nI a = nI (252 + a) by rw [show (252 : Int32) = nI 252 from rfl, nI_add], h.2.2.2.1, h.2.2.1, show 231 + 1 = 232 from rfl, e232]
  simp only [nI_clamp (show 252 + a < 2 ^ 31 by omega), ht.2.2, zgd_t (show zin (nI (252 + a)) 21948 from vp_in_nI (by omega) (by decide)), zgd_t zB0, zgd_t zB1, zbn_e, zu3, if_true, zE10, if_false]
  by_cases c : e = 0
  · rw [if_pos c]
    by_cases k : p = n
    · rw [if_pos (show nI p = nI n by rw [k]), if_pos ⟨c, k⟩]
      exact ⟨_, rfl, 0, h.wrong 0⟩
    · rw [if_neg (show ¬ nI p = nI n from fun q => k (by rw [nIe (by omega) (by omega)] at q; exact q)), if_neg (show ¬ (e = 0 ∧ p = n) from fun q => k q.2)]
      exact ⟨_, rfl, 1, h.wrong 1⟩
  · rw [if_neg c, if_neg (show ¬ (e = 0 ∧ p = n) from fun q => c q.1)]
    exact ⟨_, rfl, 1, h.wrong 1⟩
theorem h_121 (ha : a ≤ 10) (h12 : w 231 12 = 0) (hm : w 232 (1600 + a) = v) (K : zWd → Option (Int32 × zWd)) : mX12_readsOrder_121b 231 (nI a) K w = if (8 : Int32) ≤ v then mX12_readsOrder_170 231 (nI a) w else zcl (mX12_here 231 w) fun r13 w14 => if r13 = 59 then (zcl (mX12_reads 231 (nI a) (zup w14 231 11 (w14 231 11 + 1))) fun _ w17 => K w17) else mX12_readsOrder_170 231 (nI a) w14 := by
  unfold mX12_readsOrder_121b
  rw [h12, if_pos rfl, show (1600 : Int32) + nI a = nI (1600 + a) by rw [show (1600 : Int32) = nI 1600 from rfl, nI_add], zgd_t (show zin (nI (1600 + a)) 21948 from vp_in_nI (by omega) (by decide))]
  simp only [nI_clamp (show 1600 + a < 2 ^ 31 by omega), show 231 + 1 = 232 from rfl, hm, zbn_e]
/-- the clauses behind the first -/
theorem h_row (ha : a ≤ 10) : ∀ k (cs : List qCl1) p (w0 w : zWd) F, cs.length + k = 8 → p ≤ n → k + 1 ≤ F → qTx w0 a n → qMk w0 a cs → qMs w0 a (-1) 0 p 0 w → ∃ x w' B, zlp (fun (k : zWd → Option (Int32 × zWd)) (q : zWd) => mX12_readsOrder_121b 231 (nI a) k q) F w = some (x, w') ∧ qMd w0 B a ∧ (match (if ¬ k = 0 ∧ qB (qFx w0 a) n p = 59 then qCls (qFx w0 a) n k (p + 1) cs else if p = n then (p, some cs) else (p, none)) with | (_, some cs2) => x = 1 ∧ qMk B a cs2 ∧ ∃ p e, qMs B a (-1) 0 p e w' | (p', none) => x = 0 ∧ ∃ e, qMs B a (-1) 0 p' e w') := by
  intro k
  induction k with
  | zero =>
    intro cs p w0 w F h1 h2 h3 ht hk h
    obtain ⟨F, rfl⟩ : ∃ F', F = F' + 1 := ⟨F - 1, by omega⟩
    have e232 := h.1.1 232 (by decide)
    rw [zlp_1, if_neg (show ¬ (¬ 0 = 0 ∧ qB (qFx w0 a) n p = 59) from fun q => q.1 rfl)]
    obtain ⟨w', m1, e2, m2⟩ := h_170 ht ha h2 h zB0
    refine ⟨if (0 : Int32) = 0 ∧ p = n then 1 else 0, w', w0, ?_, ⟨fun _ _ => rfl, fun _ _ => rfl⟩, ?_⟩
    · show mX12_readsOrder_121b 231 (nI a) _ w = _
      rw [h_121 (v := nI cs.length) ha h.2.2.2.1 (by rw [e232]; exact hk.1), if_pos (show (8 : Int32) ≤ nI cs.length from nI_le (a := 8) (by omega) (by omega))]
      exact m1
    · by_cases en : p = n
      · rw [if_pos en, if_pos (show (0 : Int32) = 0 ∧ p = n from ⟨rfl, en⟩)]
        exact ⟨rfl, hk, p, e2, m2⟩
      · rw [if_neg en, if_neg (show ¬ ((0 : Int32) = 0 ∧ p = n) from fun q => en q.2)]
        exact ⟨rfl, e2, m2⟩
  | succ k ih =>
    intro cs p w0 w F h1 h2 h3 ht hk h
    obtain ⟨F, rfl⟩ : ∃ F', F = F' + 1 := ⟨F - 1, by omega⟩
    have e232 := h.1.1 232 (by decide)
    have hn := ht.2.1
    rw [zlp_1]
    show ∃ x w' B, mX12_readsOrder_121b 231 (nI a) (zlp (fun (k : zWd → Option (Int32 × zWd)) (q : zWd) => mX12_readsOrder_121b 231 (nI a) k q) F) w = some (x, w') ∧ _
    rw [h_121 (v := nI cs.length) ha h.2.2.2.1 (by rw [e232]; exact hk.1), if_neg (show ¬ (8 : Int32) ≤ nI cs.length from nI_ge (b := 8) (by omega) (by decide)), h_here ht h (by omega), zcl_s]
    by_cases c59 : qB (qFx w0 a) n p = 59
    · have hpn := qB_in c59 (by decide)
      rw [if_pos c59, h.2.2.1, ← nI_succ, if_pos (show ¬ k + 1 = 0 ∧ qB (qFx w0 a) n p = 59 from ⟨by omega, c59⟩)]
      obtain ⟨w3, B, m1, m2, m3⟩ := h_reads ht ha (k := cs.length) (by omega) hk.1 (p := p + 1) (by omega) (h.spot (p + 1))
      rw [m1, zcl_s]
      have md : qMd w0 B a := qMd.of (k := cs.length) m2 (by omega)
      obtain ⟨ht3, hf3⟩ := ht.md ha md
      have g := qCl_in (f := qFx w0 a) hn (p := p + 1) (by omega)
      unfold qCls
      match e : qCl (qFx w0 a) n (p + 1) with
      | (p', none) =>
        rw [e] at m3 g
        obtain ⟨F2, rfl⟩ : ∃ F', F = F' + 1 := ⟨F - 1, by omega⟩
        obtain ⟨w', g1, e2, g2⟩ := h_170 ht3 ha g.1 m3 zB1
        refine ⟨0, w', B, ?_, md, rfl, e2, g2⟩
        rw [zlp_1]
        show mX12_readsOrder_121b 231 (nI a) _ w3 = _
        unfold mX12_readsOrder_121b
        rw [m3.2.2.2.1, if_neg (show ¬ (1 : Int32) = 0 by decide), g1, if_neg (show ¬ ((1 : Int32) = 0 ∧ p' = n) from fun q => absurd q.1 (by decide))]
      | (p', some c) =>
        rw [e] at m3 g
        obtain ⟨n1, n2, n3, n4, n5⟩ := m3
        have hk3 := hk.add (by omega) m2 n2 n3 n4 n5 ha
        obtain ⟨x, w', C, r1, r2, r3⟩ := ih (cs ++ [c]) p' B w3 F (by rw [List.length_append]; show cs.length + 1 + k = 8; omega) g.1 (by omega) ht3 hk3 n1
        rw [hf3] at r3
        have ec : qCls (qFx B a) n k (p' + 1) (cs ++ [c]) = qCls (qFx w0 a) n k (p' + 1) (cs ++ [c]) := by
          have : ∀ k p acc, qCls (qFx B a) n k p acc = qCls (qFx w0 a) n k p acc := by
            intro k
            induction k with
            | zero => intro p acc; rfl
            | succ k ih => intro p acc; unfold qCls; simp only [hf3, qCl_congr hf3, ih]
          exact this _ _ _
        rw [ec] at r3
        exact ⟨x, w', C, r1, md.tr r2, r3⟩
    · rw [if_neg c59, if_neg (show ¬ (¬ k + 1 = 0 ∧ qB (qFx w0 a) n p = 59) from fun q => c59 q.2)]
      obtain ⟨w', m1, e2, m2⟩ := h_170 ht ha h2 h zB0
      rw [m1]
      by_cases en : p = n
      · rw [if_pos (show (0 : Int32) = 0 ∧ p = n from ⟨rfl, en⟩), if_pos en]
        exact ⟨_, w', w0, rfl, ⟨fun _ _ => rfl, fun _ _ => rfl⟩, rfl, hk, p, e2, m2⟩
      · rw [if_neg (show ¬ ((0 : Int32) = 0 ∧ p = n) from fun q => en q.2), if_neg en]
        exact ⟨_, w', w0, rfl, ⟨fun _ _ => rfl, fun _ _ => rfl⟩, rfl, e2, m2⟩
end HO
