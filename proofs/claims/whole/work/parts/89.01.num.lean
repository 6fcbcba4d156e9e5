theorem zcl_s {ρ α : Type} (r : ρ) (w : zWd) (f : ρ → zWd → Option α) : zcl (some (r, w)) f = f r w := rfl
theorem zgd_t {α : Type} {c : Prop} [Decidable c] (h : c) (X : Option α) : zgd c X = X := if_pos h
theorem zbn_e {α β : Type} (e : α) (f : α → Option β) : zbn e f = f e := rfl
theorem zif01 (p : Prop) [Decidable p] : ((if p then (1 : Int32) else 0) = 0) = ¬ p := by
  by_cases h : p <;> simp [h]
theorem zif10 (p : Prop) [Decidable p] : ((if p then (0 : Int32) else 1) = 0) = p := by
  by_cases h : p <;> simp [h]
theorem zB0 : zB 0 := Or.inl rfl
theorem zB1 : zB 1 := Or.inr rfl
theorem zBif (p : Prop) [Decidable p] : zB (if p then 1 else 0) := by
  by_cases h : p
  · rw [if_pos h]; exact zB1
  · rw [if_neg h]; exact zB0
theorem zlt (a b : Int32) : (a < b) = (a.toInt < b.toInt) := propext Int32.lt_iff_toInt_lt
theorem zle (a b : Int32) : (a ≤ b) = (a.toInt ≤ b.toInt) := propext Int32.le_iff_toInt_le
theorem zeq (a b : Int32) : (a = b) = (a.toInt = b.toInt) := propext ⟨fun h => by rw [h], fun h => Int32.toInt_inj.mp h⟩
theorem zinI {i : Int32} {n : Nat} : zin i n ↔ 0 ≤ i.toInt ∧ i.toInt < n := vp_in_iff
theorem zinT {i n : Nat} (h : i < n) (hn : n < 2 ^ 31) : zin (nI i) n ↔ True := iff_true_intro (vp_in_nI h hn)
/-- a number in range is a place -/
theorem zV (x : Int32) (N : Nat) (hN : N < 2 ^ 31) : (∃ n, n < N ∧ x = nI n) ∨ ¬ (0 ≤ x.toInt ∧ x.toInt < N) := by
  by_cases h : 0 ≤ x.toInt ∧ x.toInt < N
  · exact Or.inl (vp_in_of (vp_in_iff.mpr h) hN)
  · exact Or.inr h
theorem p_within (a n : Int32) (w : zWd) : mX11_within a n w = some (if 0 ≤ a.toInt ∧ a.toInt < n.toInt then 1 else 0, w) := by
  unfold mX11_within mX11_within_13 mX11_within_14
  simp only [zlt, zle]
  have : (0 : Int32).toInt = 0 := rfl
  rw [this]
  by_cases h1 : a.toInt < 0
  · rw [if_pos h1, if_neg (by omega)]; rfl
  · rw [if_neg h1]
    by_cases h2 : n.toInt ≤ a.toInt
    · rw [if_pos h2, if_neg (by omega)]; rfl
    · rw [if_neg h2, if_pos (by omega)]; rfl
theorem p_in (v lo hi : Int32) (w : zWd) : mX12_in v lo hi w = some (if lo.toInt ≤ v.toInt ∧ v.toInt ≤ hi.toInt then 1 else 0, w) := by
  unfold mX12_in
  simp only [zlt, zle, mX12_in_15, mX12_in_14]
  by_cases h1 : v.toInt < lo.toInt
  · rw [if_pos h1, if_neg (by omega)]; rfl
  · rw [if_neg h1]
    by_cases h2 : hi.toInt < v.toInt
    · rw [if_pos h2, if_neg (by omega)]; rfl
    · rw [if_neg h2, if_pos (by omega)]; rfl
/-- what the two sides ask of a number: 0 .. N-1 -/
abbrev zOkN (x : Int32) (N : Int) : Prop := 0 ≤ x.toInt ∧ x.toInt < N
theorem p_isCell (c : Int32) (w : zWd) : mX12_isCell c w = some (if zOkN c 30 then 1 else 0, w) := by
  unfold mX12_isCell
  simp only [p_in, zcl_s]
  rw [zgd_t (zBif _)]
  have : (0 ≤ c.toInt ∧ c.toInt < 30) ↔ ((0 : Int32).toInt ≤ c.toInt ∧ c.toInt ≤ (29 : Int32).toInt) := by simp; omega
  by_cases h : 0 ≤ c.toInt ∧ c.toInt < 30
  · rw [if_pos h, if_pos (this.mp h)]
  · rw [if_neg h, if_neg (fun q => h (this.mpr q))]
theorem p_isDay12 (c : Int32) (w : zWd) : mX12_isDay c w = some (if zOkN c 401 then 1 else 0, w) := by
  unfold mX12_isDay
  simp only [p_in, zcl_s]
  rw [zgd_t (zBif _)]
  have : (0 ≤ c.toInt ∧ c.toInt < 401) ↔ ((0 : Int32).toInt ≤ c.toInt ∧ c.toInt ≤ (400 : Int32).toInt) := by simp; omega
  by_cases h : 0 ≤ c.toInt ∧ c.toInt < 401
  · rw [if_pos h, if_pos (this.mp h)]
  · rw [if_neg h, if_neg (fun q => h (this.mpr q))]
theorem p_isOwner (c : Int32) (w : zWd) : mX12_isOwner c w = some (if zOkN c 10 then 1 else 0, w) := by
  unfold mX12_isOwner
  simp only [p_in, zcl_s]
  rw [zgd_t (zBif _)]
  have : (0 ≤ c.toInt ∧ c.toInt < 10) ↔ ((0 : Int32).toInt ≤ c.toInt ∧ c.toInt ≤ (9 : Int32).toInt) := by simp; omega
  by_cases h : 0 ≤ c.toInt ∧ c.toInt < 10
  · rw [if_pos h, if_pos (this.mp h)]
  · rw [if_neg h, if_neg (fun q => h (this.mpr q))]
theorem p_isDay11 (c : Int32) (w : zWd) : mX11_isDay c w = some (if zOkN c 401 then 1 else 0, w) := by
  unfold mX11_isDay mX11_isDay_15 mX11_isDay_16
  simp only [zlt, zle]
  have e0 : (0 : Int32).toInt = 0 := rfl
  have e4 : (400 : Int32).toInt = 400 := by simp
  rw [e0, e4]
  by_cases h1 : c.toInt < 0
  · rw [if_pos h1, if_neg (by omega)]; rfl
  · rw [if_neg h1]
    by_cases h2 : (400 : Int) < c.toInt
    · rw [if_pos h2, if_neg (by omega)]; rfl
    · rw [if_neg h2, if_pos (by omega)]; rfl
theorem pm1 (x : Int32) (h : 0 ≤ x.toInt) : (x - 1).toInt = x.toInt - 1 := by
  have h1 := x.toInt_lt
  have e1 : (1 : Int32).toInt = 1 := rfl
  rw [Int32.toInt_sub, e1, Int.bmod_eq_of_le (by omega) (by omega)]
/-- tap t, taker t, day d that went by: by the model's counts -/
theorem p_isTap12 (t : Int32) (w : zWd) (h : 0 ≤ (w 232 1).toInt) : mX12_isTap 231 t w = some (if zOkN t (w 232 1).toInt then 1 else 0, w) := by
  unfold mX12_isTap
  simp only [p_in, zcl_s]
  rw [zgd_t (by decide), zgd_t (zBif _)]
  have e : (1 : Int32).toNatClampNeg = 1 := by decide
  rw [e]
  have : (0 ≤ t.toInt ∧ t.toInt < (w 232 1).toInt) ↔ ((0 : Int32).toInt ≤ t.toInt ∧ t.toInt ≤ (w (231 + 1) 1 - 1).toInt) := by
    rw [show w (231 + 1) 1 = w 232 1 from rfl, pm1 _ h]; simp; omega
  by_cases h : 0 ≤ t.toInt ∧ t.toInt < (w 232 1).toInt
  · rw [if_pos h, if_pos (this.mp h)]
  · rw [if_neg h, if_neg (fun q => h (this.mpr q))]
theorem p_isTaker12 (t : Int32) (w : zWd) (h : 0 ≤ (w 232 3).toInt) : mX12_isTaker 231 t w = some (if zOkN t (w 232 3).toInt then 1 else 0, w) := by
  unfold mX12_isTaker
  simp only [p_in, zcl_s]
  rw [zgd_t (by decide), zgd_t (zBif _)]
  have e : (3 : Int32).toNatClampNeg = 3 := by decide
  rw [e]
  have : (0 ≤ t.toInt ∧ t.toInt < (w 232 3).toInt) ↔ ((0 : Int32).toInt ≤ t.toInt ∧ t.toInt ≤ (w (231 + 1) 3 - 1).toInt) := by
    rw [show w (231 + 1) 3 = w 232 3 from rfl, pm1 _ h]; simp; omega
  by_cases h : 0 ≤ t.toInt ∧ t.toInt < (w 232 3).toInt
  · rw [if_pos h, if_pos (this.mp h)]
  · rw [if_neg h, if_neg (fun q => h (this.mpr q))]
theorem p_isGone (t : Int32) (w : zWd) (h : 0 ≤ (w 232 0).toInt) : mX12_isGone 231 t w = some (if zOkN t (w 232 0).toInt then 1 else 0, w) := by
  unfold mX12_isGone
  simp only [p_in, zcl_s]
  rw [zgd_t (by decide), zgd_t (zBif _)]
  have e : (0 : Int32).toNatClampNeg = 0 := by decide
  rw [e]
  have : (0 ≤ t.toInt ∧ t.toInt < (w 232 0).toInt) ↔ ((0 : Int32).toInt ≤ t.toInt ∧ t.toInt ≤ (w (231 + 1) 0 - 1).toInt) := by
    rw [show w (231 + 1) 0 = w 232 0 from rfl, pm1 _ h]; simp; omega
  by_cases h : 0 ≤ t.toInt ∧ t.toInt < (w 232 0).toInt
  · rw [if_pos h, if_pos (this.mp h)]
  · rw [if_neg h, if_neg (fun q => h (this.mpr q))]
theorem p_isTap11 (t : Int32) (w : zWd) : mX11_isTap 0 t w = some (if zOkN t (w 2 1).toInt then 1 else 0, w) := by
  unfold mX11_isTap
  simp only [p_within, zcl_s]
  rw [zgd_t (zBif _)]
theorem p_isTaker11 (t : Int32) (w : zWd) : mX11_isTaker 0 t w = some (if zOkN t (w 82 0).toInt then 1 else 0, w) := by
  unfold mX11_isTaker
  simp only [p_within, zcl_s]
  rw [zgd_t (zBif _)]
