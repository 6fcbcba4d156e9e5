section TK
variable {w0 : zWd} {B r g e d0 d1 d2 d3 : Nat} {x : Int32}
/-- the innermost: y2 of the third, the rest of the fourth -/
def qS3 (W : Nat → Int32) (g e d3 : Nat) (x : Int32) (a b : Nat) (c v : Nat) : Prop := g - a - b - c ≤ d3 ∧ qWm W a b c (g - a - b - c) x ∧ v = e - ((((g - a - b - c) * 7 + c) * 7 + b) * 7 + a)
theorem c_take3 (hB : B = 223 ∨ B = 224) (h3 : w0 220 3 = nI B) (h7 : w0 220 7 = nI r) (hg : g ≤ 4) (h0 : d0 ≤ 6) (h1 : d1 ≤ 6) (h2 : d2 ≤ 6) (h3d : d3 ≤ 6) (he : e = d0 + 7 * d1 + 49 * d2 + 343 * d3) {a b : Nat} (ha : a ≤ d0) (hb : b ≤ d1) (hab : a + b ≤ g) (k34 k50 : Int32 × zWd → Option (Unit × zWd)) (u : zWd) (Q : Nat → Prop) (hu : qKs w0 B r u Q) : ∃ u', mX1_takeFrom_69 k34 k50 220 (nI e) (nI g) x (nI d0) (nI d1) (nI d2) (nI d3) (nI a) (nI b) 0 u = k50 (nI (b + 1), u') ∧ qKs w0 B r u' (fun v => Q v ∨ ∃ c, 0 ≤ c ∧ c ≤ min (g - a - b) d2 ∧ qS3 (w0 222) g e d3 x a b c v) := by
  have n01 : ∀ i : Int32, i = 0 ∨ i = 1 ∨ i = 2 ∨ i = 3 → zin i 4 := by rintro i (rfl | rfl | rfl | rfl) <;> decide
  unfold mX1_takeFrom_69
  have main := z_add (G := fun (k : Int32 × zWd → Option (Unit × zWd)) (q : Int32 × zWd) => mX1_takeFrom_69b k34 k50 220 (nI e) (nI g) x (nI d0) (nI d1) (nI d2) (nI d3) (nI a) (nI b) k q.1 q.2) (M := min (g - a - b) d2) (S := qS3 (w0 222) g e d3 x a b) (K := fun u => k50 (nI (b + 1), u)) (I := qKs w0 B r) qKs.iff ?_ ?_ (min (g - a - b) d2 + 1) 0 zFU u Q (by omega) (by show _ < 100000; omega) hu
  · exact main
  · intro k u
    show mX1_takeFrom_69b k34 k50 220 (nI e) (nI g) x (nI d0) (nI d1) (nI d2) (nI d3) (nI a) (nI b) k (nI (min (g - a - b) d2 + 1)) u = _
    unfold mX1_takeFrom_69b mX1_takeFrom_186
    rw [nI_add, nI_add, ← nI_succ]
    by_cases c1 : g < a + b + (min (g - a - b) d2 + 1)
    · rw [if_pos (nI_lt c1 (by omega))]
    · rw [if_neg (show ¬ nI g < nI (a + b + (min (g - a - b) d2 + 1)) from fun q => by rw [zlt, nIi (by omega), nIi (by omega)] at q; omega), if_pos (nI_lt (show d2 < min (g - a - b) d2 + 1 by omega) (by omega))]
  · intro c hc k u Q hu
    obtain ⟨L, hK, hQ⟩ := hu
    show ∃ u', mX1_takeFrom_69b k34 k50 220 (nI e) (nI g) x (nI d0) (nI d1) (nI d2) (nI d3) (nI a) (nI b) k (nI c) u = _ ∧ _
    unfold mX1_takeFrom_69b mX1_takeFrom_180
    have eW : u 222 = w0 222 := hK.1 222 (by decide) (by decide) (by omega)
    rw [nI_add, nI_add, if_neg (show ¬ nI g < nI (a + b + c) from fun q => by rw [zlt, nIi (by omega), nIi (by omega)] at q; omega), if_neg (show ¬ nI d2 < nI c from fun q => by rw [zlt, nIi (by omega), nIi (by omega)] at q; omega), pk_sub (show a ≤ g by omega), pk_sub (show b ≤ g - a by omega), pk_sub (show c ≤ g - a - b by omega), zbn_e, zgd_t (n01 0 (by simp)), zgd_t (n01 1 (by simp)), zgd_t (n01 2 (by simp)), zgd_t (n01 3 (by simp)), zbn_e, ← nI_succ]
    simp only [show (0 : Int32).toNatClampNeg = 0 by decide, show (1 : Int32).toNatClampNeg = 1 by decide, show (2 : Int32).toNatClampNeg = 2 by decide, show (3 : Int32).toNatClampNeg = 3 by decide, Nat.reduceAdd, eW]
    by_cases c3 : d3 < g - a - b - c
    · rw [if_pos (nI_lt c3 (by omega))]
      exact ⟨u, rfl, L, hK, fun v => (hQ v).trans ⟨Or.inl, fun q => q.elim id (fun q => absurd q.1 (by omega))⟩⟩
    · rw [if_neg (show ¬ nI d3 < nI (g - a - b - c) from fun q => by rw [zlt, nIi (by omega), nIi (by omega)] at q; omega)]
      by_cases c4 : nI a * w0 222 0 + nI b * w0 222 1 + nI c * w0 222 2 + nI (g - a - b - c) * w0 222 3 < x
      · rw [if_pos c4]
        exact ⟨u, rfl, L, hK, fun v => (hQ v).trans ⟨Or.inl, fun q => q.elim id (fun q => absurd c4 q.2.1)⟩⟩
      · rw [if_neg c4]
        have ek : nI e - (((nI (g - a - b - c) * 7 + nI c) * 7 + nI b) * 7 + nI a) = nI (e - ((((g - a - b - c) * 7 + c) * 7 + b) * 7 + a)) := by
          rw [show (7 : Int32) = nI 7 from rfl, pk_mul, nI_add, pk_mul, nI_add, pk_mul, nI_add, pk_sub (by omega)]
        obtain ⟨u', L', m1, m2, m3⟩ := c_keep hB h3 h7 hK (v := e - ((((g - a - b - c) * 7 + c) * 7 + b) * 7 + a)) (by omega)
        rw [ek, m1, zcl_s]
        refine ⟨u', rfl, L', m2, fun v => (m3 v).trans ?_⟩
        rw [hQ v]
        exact ⟨fun q => q.elim Or.inl (fun q => Or.inr ⟨by omega, c4, q⟩), fun q => q.elim Or.inl (fun q => Or.inr q.2.2)⟩
end TK
