/-! THE MIX, the model's: gallons of each tap are taken from a code -/
def qxY (k : Nat) : Nat → Nat
  | 0 => k % 5
  | 1 => k / 5 % 5
  | 2 => k / 25 % 5
  | _ => k / 125 % 5
theorem nI_rem {e m : Nat} (he : e < 2 ^ 31) (h0 : 0 < m) (hm : m < 2 ^ 31) : nI e - nI e / nI m * nI m = nI (e % m) := by
  have h1 := Nat.div_add_mod e m
  have h2 : m * (e / m) = e / m * m := Nat.mul_comm _ _
  rw [pk_div he h0 hm, pk_mul, pk_sub (by omega)]
  congr 1
  omega
def qxFt (e : Nat) (y : Nat → Nat) : Prop := y 0 ≤ e % 7 ∧ y 1 ≤ e / 7 % 7 ∧ y 2 ≤ e / 49 % 7 ∧ y 3 ≤ e / 343
theorem h_wo1 {u : zWd} {c a p i y : Nat} (k : Int32 × Int32 × Int32 × Int32 × zWd → Option (Int32 × zWd)) (hc : c < 2401) (hi : i < 4) (hy : y ≤ 4) (e : u 245 i = nI y) :
    mX12_without_10b 231 k (nI c) (nI a) (nI p) (nI i) u = if y ≤ c % 7 then k (nI (c / 7), nI (a + p * (c % 7 - y)), nI (p * 7), nI (i + 1), u) else some (-1, u) := by
  unfold mX12_without_10b
  rw [if_neg (show ¬ (4 : Int32) ≤ nI i from fun q => by rw [zle, T4, nIi (by omega)] at q; omega), zgd_t (show zin (nI i) 4 from vp_in_nI hi (by decide)), show (7 : Int32) = nI 7 from rfl, nI_rem (by omega) (by decide) (by decide), nI_clamp (show i < 2 ^ 31 by omega)]
  show zbn (nI (c % 7) - u 245 i) _ = _
  rw [e, zbn_e]
  have hs := nIs (a := c % 7) (b := y) (by omega) (by omega)
  by_cases h : y ≤ c % 7
  · rw [if_pos h, if_pos (show (0 : Int32) ≤ nI (c % 7) - nI y by rw [zle, hs, T0]; omega), zbn_e, zbn_e, zbn_e, pk_sub h, pk_mul p (c % 7 - y), nI_add a (p * (c % 7 - y)), pk_mul p 7, pk_div (by omega) (by decide) (by decide), ← nI_succ]
  · rw [if_neg h, if_neg (show ¬ (0 : Int32) ≤ nI (c % 7) - nI y from fun q => by rw [zle, hs, T0] at q; omega)]
theorem h_wo4 {u : zWd} {c a p : Nat} (k : Int32 × Int32 × Int32 × Int32 × zWd → Option (Int32 × zWd)) : mX12_without_10b 231 k (nI c) (nI a) (nI p) (nI 4) u = some (nI a, u) := by
  unfold mX12_without_10b
  exact if_pos (show (4 : Int32) ≤ nI 4 by decide)
theorem h_without {u : zWd} {e : Nat} {y : Nat → Nat} (he : e < 2401) (hy : ∀ i, i < 4 → y i ≤ 4 ∧ u 245 i = nI (y i)) : ∃ v, mX12_without 231 (nI e) u = some (v, u) ∧ ((qxFt e y ∧ v = nI (e - qxCd y)) ∨ (¬ qxFt e y ∧ v = -1)) := by
  obtain ⟨y0, f0⟩ := hy 0 (by decide)
  obtain ⟨y1, f1⟩ := hy 1 (by decide)
  obtain ⟨y2, f2⟩ := hy 2 (by decide)
  obtain ⟨y3, f3⟩ := hy 3 (by decide)
  have key : ∀ N, ∃ v, zlp (fun k (q : Int32 × Int32 × Int32 × Int32 × zWd) => mX12_without_10b 231 k q.1 q.2.1 q.2.2.1 q.2.2.2.1 q.2.2.2.2) (N + 1 + 1 + 1 + 1 + 1) (nI e, nI 0, nI 1, nI 0, u) = some (v, u) ∧ ((qxFt e y ∧ v = nI (e - qxCd y)) ∨ (¬ qxFt e y ∧ v = -1)) := by
    intro N
    rw [zlp_1, h_wo1 _ he (by decide) y0 f0]
    by_cases c0 : y 0 ≤ e % 7
    rotate_left
    · rw [if_neg c0]; exact ⟨-1, rfl, Or.inr ⟨fun q => c0 q.1, rfl⟩⟩
    rw [if_pos c0, zlp_1, h_wo1 _ (show e / 7 < 2401 by omega) (by decide) y1 f1]
    by_cases c1 : y 1 ≤ e / 7 % 7
    rotate_left
    · rw [if_neg c1]; exact ⟨-1, rfl, Or.inr ⟨fun q => c1 q.2.1, rfl⟩⟩
    rw [if_pos c1, zlp_1, h_wo1 _ (show e / 7 / 7 < 2401 by omega) (by decide) y2 f2]
    by_cases c2 : y 2 ≤ e / 7 / 7 % 7
    rotate_left
    · rw [if_neg c2]; exact ⟨-1, rfl, Or.inr ⟨fun q => c2 (by have := q.2.2.1; omega), rfl⟩⟩
    rw [if_pos c2, zlp_1, h_wo1 _ (show e / 7 / 7 / 7 < 2401 by omega) (by decide) y3 f3]
    by_cases c3 : y 3 ≤ e / 7 / 7 / 7 % 7
    rotate_left
    · rw [if_neg c3]; exact ⟨-1, rfl, Or.inr ⟨fun q => c3 (by have := q.2.2.2; omega), rfl⟩⟩
    rw [if_pos c3, zlp_1, h_wo4]
    refine ⟨_, rfl, Or.inl ⟨⟨c0, c1, by omega, by omega⟩, ?_⟩⟩
    unfold qxCd
    congr 1
    omega
  exact key 99995
