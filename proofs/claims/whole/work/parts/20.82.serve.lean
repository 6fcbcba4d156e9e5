/-! THE MIX: the row is gone through -/
/-- what may be left behind the first j of the row -/
def qxSs (W : Nat → Int32) (gg nd : Nat → Nat) (c0 : Nat) : Nat → Nat → Prop
  | 0 => fun e => e = c0
  | j + 1 => qxSt W (gg j) (nI (gg j) * nI (nd j)) (qxSs W gg nd c0 j)
def qxBs (bs : Nat → Bool) (T : Nat → Nat) : Nat → Int32
  | 0 => 0
  | j + 1 => if bs j = true then qxBs bs T j ||| ((1 : Int32) <<< (nI (T j) &&& 31)) else qxBs bs T j
def qxCd (tt : Nat → Nat) : Nat := tt 0 + 7 * tt 1 + 49 * tt 2 + 343 * tt 3
/-- the two rows and the marks -/
def qxMr (u : zWd) (r : Nat) : Prop := ((u 220 2 = 223 ∧ u 220 3 = 224) ∨ (u 220 2 = 224 ∧ u 220 3 = 223)) ∧ u 220 7 = nI r ∧ ∀ e, e < 2401 → ∃ k, k ≤ r ∧ u 225 e = nI k
theorem qxMz.mr {w u : zWd} {r : Nat} {S : Nat → Prop} (h : qxMz w u r S) : qxMr u r := by
  obtain ⟨A, B, L, h1, h2, h3, h4, h5, h6, h7, h8, _⟩ := h
  refine ⟨?_, h6, h8⟩
  rcases h1 with ⟨rfl, rfl⟩ | ⟨rfl, rfl⟩
  · exact Or.inl ⟨h3, h4⟩
  · exact Or.inr ⟨h3, h4⟩
theorem c_serve {u : zWd} {r K : Nat} {T gg nd tt : Nat → Nat} {bs : Nat → Bool} (hr : qxMr u r) (hr8 : r + 8 < 2 ^ 31) (hK : K ≤ 8) (h217 : u 217 0 = nI K) (hT : ∀ j, j < K → T j < 8 ∧ u 219 j = nI (T j)) (hg : ∀ j, j < K → gg j ≤ 4 ∧ u 85 (T j) = nI (gg j))
    (hn : ∀ j, j < K → ∀ u2 : zWd, (∀ a, 82 ≤ a → a ≤ 93 → u2 a = u a) → mX8_needs 82 (nI (T j)) u2 = some (nI (nd j), u2)) (ht : ∀ i, i < 4 → tt i ≤ 6 ∧ u 221 i = nI (tt i)) (hbs : ∀ j, j < K → (bs j = true ↔ ∃ v, qxLf (u 222) (gg j) (nI (gg j) * nI (nd j)) (qxSs (u 222) gg nd (qxCd tt) j) v)) :
    ∃ u', mX1_serve 220 217 82 u = some (qxBs bs T K, u') ∧ (∀ a, a ≠ 220 → a ≠ 223 → a ≠ 224 → a ≠ 225 → u' a = u a) ∧ ∃ r', r' ≤ r + 8 ∧ qxMr u' r' := by
  obtain ⟨A, B, hAB, h2, h3⟩ : ∃ A B : Nat, ((A = 223 ∧ B = 224) ∨ (A = 224 ∧ B = 223)) ∧ u 220 2 = nI A ∧ u 220 3 = nI B := by
    rcases hr.1 with ⟨a, b⟩ | ⟨a, b⟩
    · exact ⟨223, 224, Or.inl ⟨rfl, rfl⟩, a, b⟩
    · exact ⟨224, 223, Or.inr ⟨rfl, rfl⟩, a, b⟩
  obtain ⟨_, h7, h8⟩ := hr
  have hA : A = 223 ∨ A = 224 := by omega
  have hAs : zShp A = (20, 2401) := by rcases hA with rfl | rfl <;> decide +kernel
  have hA0 : ¬ nI A = 0 := fun q => by rw [show (0 : Int32) = nI 0 from rfl, nIe (by omega) (by omega)] at q; omega
  have n01 : ∀ i : Int32, i = 0 ∨ i = 1 ∨ i = 2 ∨ i = 3 → zin i 4 := by rintro i (rfl | rfl | rfl | rfl) <;> decide
  obtain ⟨t0, q0⟩ := ht 0 (by decide)
  obtain ⟨t1, q1⟩ := ht 1 (by decide)
  obtain ⟨t2, q2⟩ := ht 2 (by decide)
  obtain ⟨t3, q3⟩ := ht 3 (by decide)
  have hc : ((nI (tt 3) * 7 + nI (tt 2)) * 7 + nI (tt 1)) * 7 + nI (tt 0) = nI (qxCd tt) := by
    rw [show (7 : Int32) = nI 7 from rfl, pk_mul, nI_add, pk_mul, nI_add, pk_mul, nI_add]
    unfold qxCd
    congr 1
    omega
  have hc2 : qxCd tt < 2401 := by unfold qxCd; omega
  unfold mX1_serve mX1_serve_52
  rw [h2, zgd_t hA0, nI_clamp (show A < 2 ^ 31 by omega), zgd_t hAs, zgd_t (n01 3 (by simp)), zgd_t (n01 2 (by simp)), zgd_t (n01 1 (by simp)), zgd_t (n01 0 (by simp)), zgd_t (show zin (0 : Int32) 2401 by decide)]
  simp only [show (0 : Int32).toNatClampNeg = 0 by decide, show (1 : Int32).toNatClampNeg = 1 by decide, show (2 : Int32).toNatClampNeg = 2 by decide, show (3 : Int32).toNatClampNeg = 3 by decide, Nat.reduceAdd, q0, q1, q2, q3, hc]
  rw [zbn_e, zbn_e]
  obtain ⟨w0, hw0⟩ : ∃ w0, w0 = zup (zup u A 0 (nI (qxCd tt))) 220 4 1 := ⟨_, rfl⟩
  rw [← hw0]
  have start : qxMz u w0 r (qxSs (u 222) gg nd (qxCd tt) 0) := by
    refine ⟨A, B, [qxCd tt], hAB, fun a a1 a2 a3 a4 => ?_, ?_, ?_, ?_, ?_, fun i hi => ?_, fun e he => ?_, by simp, fun e he => ?_, fun e => List.mem_singleton⟩
    · rw [hw0, zpE _ _ _ a1, zpE _ _ _ (by omega)]
    · rw [hw0, zu2 _ _ (by decide), zpE _ _ _ (by omega)]; exact h2
    · rw [hw0, zu2 _ _ (by decide), zpE _ _ _ (by omega)]; exact h3
    · rw [hw0, zu3]; rfl
    · rw [hw0, zu2 _ _ (by decide), zpE _ _ _ (by omega)]; exact h7
    · obtain rfl : i = 0 := by simp only [List.length_singleton] at hi; omega
      rw [hw0, zpE _ _ _ (by omega), zu3]; rfl
    · rw [hw0, zpE _ _ _ (by decide), zpE _ _ _ (by omega)]; exact h8 e he
    · rw [List.mem_singleton] at he; omega
  refine zlp_R (R := fun (Y : Option (Int32 × zWd)) => ∃ u', Y = some (qxBs bs T K, u') ∧ (∀ a, a ≠ 220 → a ≠ 223 → a ≠ 224 → a ≠ 225 → u' a = u a) ∧ ∃ r', r' ≤ r + 8 ∧ qxMr u' r')
    (P := fun (j : Nat) (q : Int32 × Int32 × zWd) => ∃ u1 : zWd, q = (qxBs bs T j, nI j, u1) ∧ qxMz u u1 (r + j) (qxSs (u 222) gg nd (qxCd tt) j)) (n := K) (by unfold zFU; omega) ?_ ⟨w0, rfl, start⟩
  rintro j hj q ⟨u1, rfl, g1⟩ k hk
  simp only [mX1_serve_52b, Nat.reduceAdd]
  have fr : ∀ a, a ≠ 220 → a ≠ 223 → a ≠ 224 → a ≠ 225 → u1 a = u a := by
    obtain ⟨_, _, _, _, f, _⟩ := g1
    exact f
  have e217 : u1 217 0 = nI K := by rw [fr 217 (by decide) (by decide) (by decide) (by decide)]; exact h217
  rw [e217]
  by_cases e : j = K
  · subst e
    rw [if_pos (show nI j ≤ nI j by rw [zle]; exact Int.le_refl _)]
    exact ⟨u1, rfl, fr, r + j, by omega, g1.mr⟩
  have hjK : j < K := by omega
  obtain ⟨T1, T2⟩ := hT j hjK
  obtain ⟨G1, G2⟩ := hg j hjK
  have e219 : u1 219 j = nI (T j) := by rw [fr 219 (by decide) (by decide) (by decide) (by decide)]; exact T2
  have e85 : u1 85 (T j) = nI (gg j) := by rw [fr 85 (by decide) (by decide) (by decide) (by decide)]; exact G2
  obtain ⟨b, u2, m1, m2, m3⟩ := c_canAdd (x := nI (nd j)) g1 G1 (by omega)
  have eb : b = bs j := Bool.eq_iff_iff.mpr (m2.trans (hbs j hjK).symm)
  rw [if_neg (show ¬ nI K ≤ nI j from fun q => by rw [zle, nIi (by omega), nIi (by omega)] at q; omega), zgd_t (show zin (nI j) 8 from vp_in_nI (by omega) (by decide)), nI_clamp (show j < 2 ^ 31 by omega), e219, zbn_e, zgd_t (show zin (nI (T j)) 8 from vp_in_nI T1 (by decide)), hn j hjK u1 (fun a a1 a2 => fr a (by omega) (by omega) (by omega) (by omega)), zcl_s]
  simp only [nI_clamp (show T j < 2 ^ 31 by omega), Nat.reduceAdd, e85, m1, zcl_s, mX1_serve_97, zbn_e, ← nI_succ]
  by_cases c : bs j = true
  · rw [eb, if_pos c, if_neg (show ¬ (1 : Int32) = 0 by decide)]
    refine hk hjK _ ⟨u2, ?_, m3⟩
    rw [show qxBs bs T (j + 1) = qxBs bs T j ||| ((1 : Int32) <<< (nI (T j) &&& 31)) from if_pos c]
  · rw [eb, if_neg c, if_pos rfl]
    refine hk hjK _ ⟨u2, ?_, m3⟩
    rw [show qxBs bs T (j + 1) = qxBs bs T j from if_neg c]
