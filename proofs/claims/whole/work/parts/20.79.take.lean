section TL
variable {w0 : zWd} {B r g e d0 d1 d2 d3 : Nat} {x : Int32}
theorem c_take2 (hB : B = 223 ∨ B = 224) (h3 : w0 220 3 = nI B) (h7 : w0 220 7 = nI r) (hg : g ≤ 4) (h0 : d0 ≤ 6) (h1 : d1 ≤ 6) (h2 : d2 ≤ 6) (h3d : d3 ≤ 6) (he : e = d0 + 7 * d1 + 49 * d2 + 343 * d3) {a : Nat} (ha : a ≤ d0) (hag : a ≤ g) (k34 : Int32 × zWd → Option (Unit × zWd)) (u : zWd) (Q : Nat → Prop) (hu : qKs w0 B r u Q) : ∃ u', mX1_takeFrom_50 k34 220 (nI e) (nI g) x (nI d0) (nI d1) (nI d2) (nI d3) (nI a) 0 u = k34 (nI (a + 1), u') ∧ qKs w0 B r u' (fun v => Q v ∨ ∃ b, 0 ≤ b ∧ b ≤ min (g - a) d1 ∧ ∃ c, 0 ≤ c ∧ c ≤ min (g - a - b) d2 ∧ qS3 (w0 222) g e d3 x a b c v) := by
  unfold mX1_takeFrom_50
  have main := z_add (G := fun (k : Int32 × zWd → Option (Unit × zWd)) (q : Int32 × zWd) => mX1_takeFrom_50b k34 220 (nI e) (nI g) x (nI d0) (nI d1) (nI d2) (nI d3) (nI a) k q.1 q.2) (M := min (g - a) d1) (S := fun b v => ∃ c, 0 ≤ c ∧ c ≤ min (g - a - b) d2 ∧ qS3 (w0 222) g e d3 x a b c v) (K := fun u => k34 (nI (a + 1), u)) (I := qKs w0 B r) qKs.iff ?_ ?_ (min (g - a) d1 + 1) 0 zFU u Q (by omega) (by show _ < 100000; omega) hu
  · exact main
  · intro k u
    show mX1_takeFrom_50b k34 220 (nI e) (nI g) x (nI d0) (nI d1) (nI d2) (nI d3) (nI a) k (nI (min (g - a) d1 + 1)) u = _
    unfold mX1_takeFrom_50b mX1_takeFrom_192
    rw [nI_add, ← nI_succ]
    by_cases c1 : g < a + (min (g - a) d1 + 1)
    · rw [if_pos (nI_lt c1 (by omega))]
    · rw [if_neg (show ¬ nI g < nI (a + (min (g - a) d1 + 1)) from fun q => by rw [zlt, nIi (by omega), nIi (by omega)] at q; omega), if_pos (nI_lt (show d1 < min (g - a) d1 + 1 by omega) (by omega))]
  · intro b hb k u Q hu
    show ∃ u', mX1_takeFrom_50b k34 220 (nI e) (nI g) x (nI d0) (nI d1) (nI d2) (nI d3) (nI a) k (nI b) u = _ ∧ _
    unfold mX1_takeFrom_50b
    rw [nI_add, if_neg (show ¬ nI g < nI (a + b) from fun q => by rw [zlt, nIi (by omega), nIi (by omega)] at q; omega), if_neg (show ¬ nI d1 < nI b from fun q => by rw [zlt, nIi (by omega), nIi (by omega)] at q; omega)]
    exact c_take3 hB h3 h7 hg h0 h1 h2 h3d he ha (by omega) (by omega) k34 k u Q hu
theorem c_take1a (hB : B = 223 ∨ B = 224) (h3 : w0 220 3 = nI B) (h7 : w0 220 7 = nI r) (hg : g ≤ 4) (h0 : d0 ≤ 6) (h1 : d1 ≤ 6) (h2 : d2 ≤ 6) (h3d : d3 ≤ 6) (he : e = d0 + 7 * d1 + 49 * d2 + 343 * d3) (u : zWd) (Q : Nat → Prop) (hu : qKs w0 B r u Q) : ∃ u', mX1_takeFrom_34 220 (nI e) (nI g) x (nI d0) (nI d1) (nI d2) (nI d3) 0 u = some ((), u') ∧ qKs w0 B r u' (fun v => Q v ∨ ∃ a, 0 ≤ a ∧ a ≤ min g d0 ∧ ∃ b, 0 ≤ b ∧ b ≤ min (g - a) d1 ∧ ∃ c, 0 ≤ c ∧ c ≤ min (g - a - b) d2 ∧ qS3 (w0 222) g e d3 x a b c v) := by
  unfold mX1_takeFrom_34
  have main := z_add (G := fun (k : Int32 × zWd → Option (Unit × zWd)) (q : Int32 × zWd) => mX1_takeFrom_34b 220 (nI e) (nI g) x (nI d0) (nI d1) (nI d2) (nI d3) k q.1 q.2) (M := min g d0) (S := fun a v => ∃ b, 0 ≤ b ∧ b ≤ min (g - a) d1 ∧ ∃ c, 0 ≤ c ∧ c ≤ min (g - a - b) d2 ∧ qS3 (w0 222) g e d3 x a b c v) (K := fun u => some ((), u)) (I := qKs w0 B r) qKs.iff ?_ ?_ (min g d0 + 1) 0 zFU u Q (by omega) (by show _ < 100000; omega) hu
  · exact main
  · intro k u
    show mX1_takeFrom_34b 220 (nI e) (nI g) x (nI d0) (nI d1) (nI d2) (nI d3) k (nI (min g d0 + 1)) u = _
    unfold mX1_takeFrom_34b mX1_takeFrom_198
    by_cases c1 : g < min g d0 + 1
    · rw [if_pos (nI_lt c1 (by omega))]
    · rw [if_neg (show ¬ nI g < nI (min g d0 + 1) from fun q => by rw [zlt, nIi (by omega), nIi (by omega)] at q; omega), if_pos (nI_lt (show d0 < min g d0 + 1 by omega) (by omega))]
  · intro a ha k u Q hu
    show ∃ u', mX1_takeFrom_34b 220 (nI e) (nI g) x (nI d0) (nI d1) (nI d2) (nI d3) k (nI a) u = _ ∧ _
    unfold mX1_takeFrom_34b
    rw [if_neg (show ¬ nI g < nI a from fun q => by rw [zlt, nIi (by omega), nIi (by omega)] at q; omega), if_neg (show ¬ nI d0 < nI a from fun q => by rw [zlt, nIi (by omega), nIi (by omega)] at q; omega)]
    exact c_take2 hB h3 h7 hg h0 h1 h2 h3d he (by omega) (by omega) k u Q hu
end TL
