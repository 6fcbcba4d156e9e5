theorem zcl_s {ρ α : Type} (r : ρ) (w : zWd) (f : ρ → zWd → Option α) : zcl (some (r, w)) f = f r w := rfl
theorem zgd_t {α : Type} {c : Prop} [Decidable c] (h : c) (X : Option α) : zgd c X = X := if_pos h
theorem zbn_e {α β : Type} (e : α) (f : α → Option β) : zbn e f = f e := rfl
theorem zif01 (p : Prop) [Decidable p] : ((if p then (1 : Int32) else 0) = 0) = ¬ p := by
  by_cases h : p <;> simp [h]
theorem zif10 (p : Prop) [Decidable p] : ((if p then (0 : Int32) else 1) = 0) = p := by
  by_cases h : p <;> simp [h]
theorem zB0 : zB 0 := Or.inl rfl
theorem zB1 : zB 1 := Or.inr rfl
theorem zBif (p : Prop) [Decidable p] : zB (if p then 1 else 0) := by
  by_cases h : p
  · rw [if_pos h]; exact zB1
  · rw [if_neg h]; exact zB0
theorem zlt (a b : Int32) : (a < b) = (a.toInt < b.toInt) := propext Int32.lt_iff_toInt_lt
theorem zle (a b : Int32) : (a ≤ b) = (a.toInt ≤ b.toInt) := propext Int32.le_iff_toInt_le
theorem zeq (a b : Int32) : (a = b) = (a.toInt = b.toInt) := propext ⟨fun h => by rw [h], fun h => Int32.toInt_inj.mp h⟩
theorem zinI {i : Int32} {n : Nat} : zin i n ↔ 0 ≤ i.toInt ∧ i.toInt < n := vp_in_iff
theorem zinT {i n : Nat} (h : i < n) (hn : n < 2 ^ 31) : zin (nI i) n ↔ True := iff_true_intro (vp_in_nI h hn)
/-- a number in range is a place -/
theorem zV (x : Int32) (N : Nat) (hN : N < 2 ^ 31) : (∃ n, n < N ∧ x = nI n) ∨ ¬ (0 ≤ x.toInt ∧ x.toInt < N) := by
  by_cases h : 0 ≤ x.toInt ∧ x.toInt < N
  · exact Or.inl (vp_in_of (vp_in_iff.mpr h) hN)
  · exact Or.inr h
theorem p_within (a n : Int32) (w : zWd) : mX11_within a n w = some (if 0 ≤ a.toInt ∧ a.toInt < n.toInt then 1 else 0, w) := by
  unfold mX11_within mX11_within_13 mX11_within_14
  simp only [zlt, zle]
  have : (0 : Int32).toInt = 0 := rfl
  rw [this]
  by_cases h1 : a.toInt < 0
  · rw [if_pos h1, if_neg (by omega)]; rfl
  · rw [if_neg h1]
    by_cases h2 : n.toInt ≤ a.toInt
    · rw [if_pos h2, if_neg (by omega)]; rfl
    · rw [if_neg h2, if_pos (by omega)]; rfl
theorem p_in (v lo hi : Int32) (w : zWd) : mX12_in v lo hi w = some (if lo.toInt ≤ v.toInt ∧ v.toInt ≤ hi.toInt then 1 else 0, w) := by
  unfold mX12_in
  simp only [zlt, zle, mX12_in_15, mX12_in_14]
  by_cases h1 : v.toInt < lo.toInt
  · rw [if_pos h1, if_neg (by omega)]; rfl
  · rw [if_neg h1]
    by_cases h2 : hi.toInt < v.toInt
    · rw [if_pos h2, if_neg (by omega)]; rfl
    · rw [if_neg h2, if_pos (by omega)]; rfl
/-- what the two sides ask of a number: 0 .. N-1 -/
abbrev zOkN (x : Int32) (N : Int) : Prop := 0 ≤ x.toInt ∧ x.toInt < N
theorem p_isCell (c : Int32) (w : zWd) : mX12_isCell c w = some (if zOkN c 30 then 1 else 0, w) := by
  unfold mX12_isCell
  simp only [p_in, zcl_s]
  rw [zgd_t (zBif _)]
  have : (0 ≤ c.toInt ∧ c.toInt < 30) ↔ ((0 : Int32).toInt ≤ c.toInt ∧ c.toInt ≤ (29 : Int32).toInt) := by simp; omega
  by_cases h : 0 ≤ c.toInt ∧ c.toInt < 30
  · rw [if_pos h, if_pos (this.mp h)]
  · rw [if_neg h, if_neg (fun q => h (this.mpr q))]
theorem p_isDay12 (c : Int32) (w : zWd) : mX12_isDay c w = some (if zOkN c 401 then 1 else 0, w) := by
  unfold mX12_isDay
  simp only [p_in, zcl_s]
  rw [zgd_t (zBif _)]
  have : (0 ≤ c.toInt ∧ c.toInt < 401) ↔ ((0 : Int32).toInt ≤ c.toInt ∧ c.toInt ≤ (400 : Int32).toInt) := by simp; omega
  by_cases h : 0 ≤ c.toInt ∧ c.toInt < 401
  · rw [if_pos h, if_pos (this.mp h)]
  · rw [if_neg h, if_neg (fun q => h (this.mpr q))]
theorem p_isOwner (c : Int32) (w : zWd) : mX12_isOwner c w = some (if zOkN c 10 then 1 else 0, w) := by
  unfold mX12_isOwner
  simp only [p_in, zcl_s]
  rw [zgd_t (zBif _)]
  have : (0 ≤ c.toInt ∧ c.toInt < 10) ↔ ((0 : Int32).toInt ≤ c.toInt ∧ c.toInt ≤ (9 : Int32).toInt) := by simp; omega
  by_cases h : 0 ≤ c.toInt ∧ c.toInt < 10
  · rw [if_pos h, if_pos (this.mp h)]
  · rw [if_neg h, if_neg (fun q => h (this.mpr q))]
theorem p_isDay11 (c : Int32) (w : zWd) : mX11_isDay c w = some (if zOkN c 401 then 1 else 0, w) := by
  unfold mX11_isDay mX11_isDay_15 mX11_isDay_16
  simp only [zlt, zle]
  have e0 : (0 : Int32).toInt = 0 := rfl
  have e4 : (400 : Int32).toInt = 400 := by simp
  rw [e0, e4]
  by_cases h1 : c.toInt < 0
  · rw [if_pos h1, if_neg (by omega)]; rfl
  · rw [if_neg h1]
    by_cases h2 : (400 : Int) < c.toInt
    · rw [if_pos h2, if_neg (by omega)]; rfl
    · rw [if_neg h2, if_pos (by omega)]; rfl
theorem pm1 (x : Int32) (h : 0 ≤ x.toInt) : (x - 1).toInt = x.toInt - 1 := by
  have h1 := x.toInt_lt
  have e1 : (1 : Int32).toInt = 1 := rfl
  rw [Int32.toInt_sub, e1, Int.bmod_eq_of_le (by omega) (by omega)]
/-- tap t, taker t, day d that went by: by the model's counts -/
theorem p_isTap12 (t : Int32) (w : zWd) (h : 0 ≤ (w 232 1).toInt) : mX12_isTap 231 t w = some (if zOkN t (w 232 1).toInt then 1 else 0, w) := by
  unfold mX12_isTap
  simp only [p_in, zcl_s]
  rw [zgd_t (by decide), zgd_t (zBif _)]
  have e : (1 : Int32).toNatClampNeg = 1 := by decide
  rw [e]
  have : (0 ≤ t.toInt ∧ t.toInt < (w 232 1).toInt) ↔ ((0 : Int32).toInt ≤ t.toInt ∧ t.toInt ≤ (w (231 + 1) 1 - 1).toInt) := by
    rw [show w (231 + 1) 1 = w 232 1 from rfl, pm1 _ h]; simp; omega
  by_cases h : 0 ≤ t.toInt ∧ t.toInt < (w 232 1).toInt
  · rw [if_pos h, if_pos (this.mp h)]
  · rw [if_neg h, if_neg (fun q => h (this.mpr q))]
theorem p_isTaker12 (t : Int32) (w : zWd) (h : 0 ≤ (w 232 3).toInt) : mX12_isTaker 231 t w = some (if zOkN t (w 232 3).toInt then 1 else 0, w) := by
  unfold mX12_isTaker
  simp only [p_in, zcl_s]
  rw [zgd_t (by decide), zgd_t (zBif _)]
  have e : (3 : Int32).toNatClampNeg = 3 := by decide
  rw [e]
  have : (0 ≤ t.toInt ∧ t.toInt < (w 232 3).toInt) ↔ ((0 : Int32).toInt ≤ t.toInt ∧ t.toInt ≤ (w (231 + 1) 3 - 1).toInt) := by
    rw [show w (231 + 1) 3 = w 232 3 from rfl, pm1 _ h]; simp; omega
  by_cases h : 0 ≤ t.toInt ∧ t.toInt < (w 232 3).toInt
  · rw [if_pos h, if_pos (this.mp h)]
  · rw [if_neg h, if_neg (fun q => h (this.mpr q))]
theorem p_isGone (t : Int32) (w : zWd) (h : 0 ≤ (w 232 0).toInt) : mX12_isGone 231 t w = some (if zOkN t (w 232 0).toInt then 1 else 0, w) := by
  unfold mX12_isGone
  simp only [p_in, zcl_s]
  rw [zgd_t (by decide), zgd_t (zBif _)]
  have e : (0 : Int32).toNatClampNeg = 0 := by decide
  rw [e]
  have : (0 ≤ t.toInt ∧ t.toInt < (w 232 0).toInt) ↔ ((0 : Int32).toInt ≤ t.toInt ∧ t.toInt ≤ (w (231 + 1) 0 - 1).toInt) := by
    rw [show w (231 + 1) 0 = w 232 0 from rfl, pm1 _ h]; simp; omega
  by_cases h : 0 ≤ t.toInt ∧ t.toInt < (w 232 0).toInt
  · rw [if_pos h, if_pos (this.mp h)]
  · rw [if_neg h, if_neg (fun q => h (this.mpr q))]
theorem p_isTap11 (t : Int32) (w : zWd) : mX11_isTap 0 t w = some (if zOkN t (w 2 1).toInt then 1 else 0, w) := by
  unfold mX11_isTap
  simp only [p_within, zcl_s]
  rw [zgd_t (zBif _)]
theorem p_isTaker11 (t : Int32) (w : zWd) : mX11_isTaker 0 t w = some (if zOkN t (w 82 0).toInt then 1 else 0, w) := by
  unfold mX11_isTaker
  simp only [p_within, zcl_s]
  rw [zgd_t (zBif _)]
theorem zW (x : Int32) (N : Nat) (hN : N < 2 ^ 31) : ¬ (0 ≤ x.toInt ∧ x.toInt < N) ∨ ∃ n, n < N ∧ x = nI n := (zV x N hN).symm
theorem l0 : (0 : Int32) = nI 0 := rfl
theorem l1 : (1 : Int32) = nI 1 := rfl
theorem l2 : (2 : Int32) = nI 2 := rfl
theorem l3 : (3 : Int32) = nI 3 := rfl
theorem l4 : (4 : Int32) = nI 4 := rfl
theorem l5 : (5 : Int32) = nI 5 := rfl
theorem l6 : (6 : Int32) = nI 6 := rfl
theorem l7 : (7 : Int32) = nI 7 := rfl
theorem l8 : (8 : Int32) = nI 8 := rfl
theorem l10 : (10 : Int32) = nI 10 := rfl
theorem l11 : (11 : Int32) = nI 11 := rfl
theorem l12 : (12 : Int32) = nI 12 := rfl
theorem l20 : (20 : Int32) = nI 20 := rfl
theorem l30 : (30 : Int32) = nI 30 := rfl
theorem l48 : (48 : Int32) = nI 48 := rfl
theorem l50 : (50 : Int32) = nI 50 := rfl
theorem l60 : (60 : Int32) = nI 60 := rfl
theorem l100 : (100 : Int32) = nI 100 := rfl
theorem l120 : (120 : Int32) = nI 120 := rfl
theorem l140 : (140 : Int32) = nI 140 := rfl
theorem l152 : (152 : Int32) = nI 152 := rfl
theorem l164 : (164 : Int32) = nI 164 := rfl
theorem l176 : (176 : Int32) = nI 176 := rfl
theorem l188 : (188 : Int32) = nI 188 := rfl
theorem l200 : (200 : Int32) = nI 200 := rfl
theorem l212 : (212 : Int32) = nI 212 := rfl
theorem l224 : (224 : Int32) = nI 224 := rfl
theorem l1604 : (1604 : Int32) = nI 1604 := rfl
theorem l1880 : (1880 : Int32) = nI 1880 := rfl
theorem l2000 : (2000 : Int32) = nI 2000 := rfl
theorem l2008 : (2008 : Int32) = nI 2008 := rfl
theorem l2016 : (2016 : Int32) = nI 2016 := rfl
theorem l2024 : (2024 : Int32) = nI 2024 := rfl
theorem l2032 : (2032 : Int32) = nI 2032 := rfl
theorem l2040 : (2040 : Int32) = nI 2040 := rfl
theorem l2048 : (2048 : Int32) = nI 2048 := rfl
theorem l2210 : (2210 : Int32) = nI 2210 := rfl
theorem l2240 : (2240 : Int32) = nI 2240 := rfl
theorem l2270 : (2270 : Int32) = nI 2270 := rfl
theorem l2300 : (2300 : Int32) = nI 2300 := rfl
theorem l2330 : (2330 : Int32) = nI 2330 := rfl
theorem l2390 : (2390 : Int32) = nI 2390 := rfl
theorem l2450 : (2450 : Int32) = nI 2450 := rfl
theorem l2510 : (2510 : Int32) = nI 2510 := rfl
theorem l2570 : (2570 : Int32) = nI 2570 := rfl
theorem l2590 : (2590 : Int32) = nI 2590 := rfl
theorem l2620 : (2620 : Int32) = nI 2620 := rfl
theorem l2650 : (2650 : Int32) = nI 2650 := rfl
theorem l2660 : (2660 : Int32) = nI 2660 := rfl
theorem l2700 : (2700 : Int32) = nI 2700 := rfl
/-- a guard that holds -/
theorem zgi {α : Type} {i n : Nat} (h : i < n) (hn : n < 2 ^ 31) (X : Option α) : zgd (zin (nI i) n) X = X := zgd_t (show zin (nI i) n from vp_in_nI h hn) X
/-- the two cases of a number: out of 0 .. N-1, or a place -/
theorem zX (x : Int32) (N : Nat) (M : Int) (hM : M = N) (hN : N < 2 ^ 31) : ¬ zOkN x M ∨ ∃ n, n < N ∧ x = nI n := by
  subst hM; exact zW x N hN
theorem T0 : (0 : Int32).toInt = 0 := rfl
theorem T1 : (1 : Int32).toInt = 1 := rfl
theorem T2 : (2 : Int32).toInt = 2 := rfl
theorem T3 : (3 : Int32).toInt = 3 := rfl
theorem T4 : (4 : Int32).toInt = 4 := rfl
theorem T5 : (5 : Int32).toInt = 5 := rfl
theorem T6 : (6 : Int32).toInt = 6 := rfl
theorem T7 : (7 : Int32).toInt = 7 := rfl
theorem T8 : (8 : Int32).toInt = 8 := rfl
theorem T9 : (9 : Int32).toInt = 9 := rfl
theorem T10 : (10 : Int32).toInt = 10 := rfl
theorem T11 : (11 : Int32).toInt = 11 := rfl
theorem T12 : (12 : Int32).toInt = 12 := rfl
theorem T20 : (20 : Int32).toInt = 20 := rfl
theorem T29 : (29 : Int32).toInt = 29 := rfl
theorem T30 : (30 : Int32).toInt = 30 := rfl
theorem T50 : (50 : Int32).toInt = 50 := rfl
theorem T60 : (60 : Int32).toInt = 60 := rfl
theorem T80 : (80 : Int32).toInt = 80 := rfl
theorem T99 : (99 : Int32).toInt = 99 := rfl
theorem T100 : (100 : Int32).toInt = 100 := rfl
theorem T120 : (120 : Int32).toInt = 120 := rfl
theorem T300 : (300 : Int32).toInt = 300 := rfl
theorem T400 : (400 : Int32).toInt = 400 := rfl
theorem T500 : (500 : Int32).toInt = 500 := rfl
theorem T999 : (999 : Int32).toInt = 999 := rfl
theorem T1000 : (1000 : Int32).toInt = 1000 := rfl
theorem T1500 : (1500 : Int32).toInt = 1500 := rfl
theorem T2000 : (2000 : Int32).toInt = 2000 := rfl
theorem T9999 : (9999 : Int32).toInt = 9999 := rfl
theorem Tm1 : (-1 : Int32).toInt = -1 := by decide
theorem Tm99 : (-99 : Int32).toInt = -99 := by decide
theorem Tm999 : (-999 : Int32).toInt = -999 := by decide
theorem zOk_nI {n : Nat} {M : Int} (h : (n : Int) < M) (hn : n < 2 ^ 31) : zOkN (nI n) M := by rw [show zOkN (nI n) M = (0 ≤ (nI n).toInt ∧ (nI n).toInt < M) from rfl, nI_toInt hn]; omega
theorem nIi {n : Nat} (h : n < 2 ^ 31) : (nI n).toInt = (n : Int) := nI_toInt h
theorem C0 : (0 : Int32).toNatClampNeg = 0 := by decide
theorem C1 : (1 : Int32).toNatClampNeg = 1 := by decide
theorem G0 {α : Type} {n : Nat} (h : 0 < n) (X : Option α) : zgd (zin (0 : Int32) n) X = X := zgd_t (by rw [zinI]; exact ⟨by decide, by rw [T0]; omega⟩) X
theorem G1 {α : Type} {n : Nat} (h : 1 < n) (X : Option α) : zgd (zin (1 : Int32) n) X = X := zgd_t (by rw [zinI]; exact ⟨by decide, by rw [T1]; omega⟩) X
theorem zE10 : ((1 : Int32) = 0) = False := by decide
theorem zE00 : ((0 : Int32) = 0) = True := by decide
