/-! how many bits are set -/
def pcn (m : Nat) : Nat → Nat
  | 0 => 0
  | k + 1 => pcn m k + m / 2 ^ k % 2
def pc8 (b : Nat) : Nat := b % 2 + b / 2 % 2 + b / 4 % 2 + b / 8 % 2 + b / 16 % 2 + b / 32 % 2 + b / 64 % 2 + b / 128 % 2
def pb1 (b : Nat) : Nat := b - ((b / 2) &&& 85)
def pb2 (c : Nat) : Nat := (c &&& 51) + ((c / 4) &&& 51)
def pb3 (d : Nat) : Nat := (d + d / 16) &&& 15
theorem bc_a : ∀ b, b < 256 → ∀ r, r < 2 → ((b / 2 + 128 * r) &&& 85) = ((b / 2) &&& 85) ∧ ((b / 2) &&& 85) ≤ b := by decide +kernel
theorem bc_b : ∀ c, c < 256 → ∀ r, r < 4 → ((c / 4 + 64 * r) &&& 51) = ((c / 4) &&& 51) := by decide +kernel
theorem bc_c : ∀ d, d < 69 → ∀ r, r < 5 → ((d + d / 16 + 16 * r) &&& 15) = ((d + d / 16) &&& 15) := by decide +kernel
theorem bc_d : ∀ b, b < 256 → pb1 b < 256 ∧ pb2 (pb1 b) < 69 ∧ pb2 (pb1 b) % 16 < 5 ∧ pb3 (pb2 (pb1 b)) = pc8 b ∧ pc8 b ≤ 8 := by decide +kernel
theorem bc_and (x M : Nat) : x &&& M = ((x % 256) &&& (M % 256)) + 256 * ((x / 256) &&& (M / 256)) := by
  have h1 : (x &&& M) % 2 ^ 8 = (x % 2 ^ 8) &&& (M % 2 ^ 8) := Nat.and_mod_two_pow
  have h2 : (x &&& M) / 2 ^ 8 = (x / 2 ^ 8) &&& (M / 2 ^ 8) := Nat.and_div_two_pow
  have h3 := Nat.mod_add_div (x &&& M) (2 ^ 8)
  rw [h1, h2] at h3
  exact h3.symm
theorem bc_and4 (x M : Nat) (hx : x < 2 ^ 32) : x &&& M = ((x % 256) &&& (M % 256)) + 256 * ((x / 256 % 256) &&& (M / 256 % 256)) + 65536 * ((x / 65536 % 256) &&& (M / 65536 % 256)) + 16777216 * ((x / 16777216) &&& (M / 16777216)) := by
  rw [bc_and x M, bc_and (x / 256) (M / 256), bc_and (x / 256 / 256) (M / 256 / 256)]
  simp only [Nat.div_div_eq_div_mul, Nat.reduceMul]
  omega
theorem bc_nat (b0 b1 b2 b3 : Nat) (h0 : b0 < 256) (h1 : b1 < 256) (h2 : b2 < 256) (h3 : b3 < 256) :
    ((b0 + 256 * b1 + 65536 * b2 + 16777216 * b3) / 2 &&& 1431655765) = (b0 / 2 &&& 85) + 256 * (b1 / 2 &&& 85) + 65536 * (b2 / 2 &&& 85) + 16777216 * (b3 / 2 &&& 85) := by
  rw [bc_and4 _ _ (by omega)]
  rw [show (b0 + 256 * b1 + 65536 * b2 + 16777216 * b3) / 2 % 256 = b0 / 2 + 128 * (b1 % 2) by omega, show (b0 + 256 * b1 + 65536 * b2 + 16777216 * b3) / 2 / 256 % 256 = b1 / 2 + 128 * (b2 % 2) by omega, show (b0 + 256 * b1 + 65536 * b2 + 16777216 * b3) / 2 / 65536 % 256 = b2 / 2 + 128 * (b3 % 2) by omega, show (b0 + 256 * b1 + 65536 * b2 + 16777216 * b3) / 2 / 16777216 = b3 / 2 by omega]
  simp only [Nat.reduceMod, Nat.reduceDiv]
  rw [(bc_a b0 h0 _ (by omega)).1, (bc_a b1 h1 _ (by omega)).1, (bc_a b2 h2 _ (by omega)).1]
theorem bc_nat2 (b0 b1 b2 b3 : Nat) (h0 : b0 < 256) (h1 : b1 < 256) (h2 : b2 < 256) (h3 : b3 < 256) :
    ((b0 + 256 * b1 + 65536 * b2 + 16777216 * b3) &&& 858993459) + ((b0 + 256 * b1 + 65536 * b2 + 16777216 * b3) / 4 &&& 858993459) = pb2 b0 + 256 * pb2 b1 + 65536 * pb2 b2 + 16777216 * pb2 b3 := by
  rw [bc_and4 _ _ (show (b0 + 256 * b1 + 65536 * b2 + 16777216 * b3) / 4 < 2 ^ 32 by omega), bc_and4 _ _ (show b0 + 256 * b1 + 65536 * b2 + 16777216 * b3 < 2 ^ 32 by omega)]
  rw [show (b0 + 256 * b1 + 65536 * b2 + 16777216 * b3) / 4 % 256 = b0 / 4 + 64 * (b1 % 4) by omega, show (b0 + 256 * b1 + 65536 * b2 + 16777216 * b3) / 4 / 256 % 256 = b1 / 4 + 64 * (b2 % 4) by omega, show (b0 + 256 * b1 + 65536 * b2 + 16777216 * b3) / 4 / 65536 % 256 = b2 / 4 + 64 * (b3 % 4) by omega, show (b0 + 256 * b1 + 65536 * b2 + 16777216 * b3) / 4 / 16777216 = b3 / 4 by omega]
  rw [show (b0 + 256 * b1 + 65536 * b2 + 16777216 * b3) % 256 = b0 by omega, show (b0 + 256 * b1 + 65536 * b2 + 16777216 * b3) / 256 % 256 = b1 by omega, show (b0 + 256 * b1 + 65536 * b2 + 16777216 * b3) / 65536 % 256 = b2 by omega, show (b0 + 256 * b1 + 65536 * b2 + 16777216 * b3) / 16777216 = b3 by omega]
  simp only [Nat.reduceMod, Nat.reduceDiv]
  rw [bc_b b0 h0 _ (by omega), bc_b b1 h1 _ (by omega), bc_b b2 h2 _ (by omega)]
  unfold pb2
  omega
theorem bc_nat3 (b0 b1 b2 b3 : Nat) (h0 : b0 < 69) (h1 : b1 < 69 ∧ b1 % 16 < 5) (h2 : b2 < 69 ∧ b2 % 16 < 5) (h3 : b3 < 69 ∧ b3 % 16 < 5) :
    ((b0 + 256 * b1 + 65536 * b2 + 16777216 * b3) + (b0 + 256 * b1 + 65536 * b2 + 16777216 * b3) / 16) &&& 252645135 = pb3 b0 + 256 * pb3 b1 + 65536 * pb3 b2 + 16777216 * pb3 b3 := by
  have e : (b0 + 256 * b1 + 65536 * b2 + 16777216 * b3) + (b0 + 256 * b1 + 65536 * b2 + 16777216 * b3) / 16 = (b0 + b0 / 16 + 16 * (b1 % 16)) + 256 * (b1 + b1 / 16 + 16 * (b2 % 16)) + 65536 * (b2 + b2 / 16 + 16 * (b3 % 16)) + 16777216 * (b3 + b3 / 16) := by omega
  rw [e]
  obtain ⟨e0, g0⟩ : ∃ e0, e0 = b0 + b0 / 16 + 16 * (b1 % 16) := ⟨_, rfl⟩
  obtain ⟨e1, g1⟩ : ∃ e0, e0 = b1 + b1 / 16 + 16 * (b2 % 16) := ⟨_, rfl⟩
  obtain ⟨e2, g2⟩ : ∃ e0, e0 = b2 + b2 / 16 + 16 * (b3 % 16) := ⟨_, rfl⟩
  obtain ⟨e3, g3⟩ : ∃ e0, e0 = b3 + b3 / 16 := ⟨_, rfl⟩
  rw [← g0, ← g1, ← g2, ← g3]
  have k0 : e0 < 256 := by omega
  have k1 : e1 < 256 := by omega
  have k2 : e2 < 256 := by omega
  have k3 : e3 < 256 := by omega
  have j0 : e0 = b0 + b0 / 16 + 16 * (b1 % 16) := g0
  clear g0 e; have j1 := g1; clear g1; have j2 := g2; clear g2; have j3 := g3; clear g3
  rw [bc_and4 _ _ (by clear j0 j1 j2 j3; omega)]
  rw [show (e0 + 256 * e1 + 65536 * e2 + 16777216 * e3) % 256 = e0 by clear j0 j1 j2 j3; omega, show (e0 + 256 * e1 + 65536 * e2 + 16777216 * e3) / 256 % 256 = e1 by clear j0 j1 j2 j3; omega, show (e0 + 256 * e1 + 65536 * e2 + 16777216 * e3) / 65536 % 256 = e2 by clear j0 j1 j2 j3; omega, show (e0 + 256 * e1 + 65536 * e2 + 16777216 * e3) / 16777216 = e3 by clear j0 j1 j2 j3; omega]
  simp only [Nat.reduceMod, Nat.reduceDiv]
  rw [j0, j1, j2, j3, bc_c b0 h0 _ h1.2, bc_c b1 h1.1 _ h2.2, bc_c b2 h2.1 _ h3.2]
  rfl
theorem nI_tb {m : Nat} (hm : m < 2 ^ 32) (i : Nat) : bt (nI m) i = m.testBit i := by
  unfold bt
  show (BitVec.ofNat 32 m).getLsbD i = _
  rw [BitVec.getLsbD_ofNat]
  by_cases h : i < 32
  · simp [h]
  · rw [Nat.testBit_lt_two_pow (Nat.lt_of_lt_of_le hm (Nat.pow_le_pow_right (by decide) (by omega)))]; simp [h]
theorem nI_ushr {m j : Nat} (hm : m < 2 ^ 32) (hj : j < 32) : ((nI m).toUInt32 >>> ((nI j).toUInt32 &&& Int32.toUInt32 31)).toInt32 = nI (m / 2 ^ j) := by
  refine b_ext (fun i hi => ?_)
  rw [b_ushr j hj, nI_tb hm, nI_tb (Nat.lt_of_le_of_lt (Nat.div_le_self _ _) hm), Nat.testBit_div_two_pow]
  rw [Nat.add_comm]
theorem nI_and2 (a b : Nat) (ha : a < 2 ^ 32) (hb : b < 2 ^ 32) : nI a &&& nI b = nI (a &&& b) := by
  refine b_ext (fun i hi => ?_)
  rw [b_and, nI_tb ha, nI_tb hb, nI_tb (Nat.lt_of_le_of_lt Nat.and_le_left ha), Nat.testBit_and]
theorem nI_sub2 {a b : Nat} (h : b ≤ a) : nI a - nI b = nI (a - b) := by
  have e : nI a = nI (a - b) + nI b := by rw [nI_add]; congr 1; omega
  rw [e]
  exact Int32.add_sub_cancel _ _
theorem qBit_nI {m t : Nat} (hm : m < 2 ^ 32) (ht : t < 32) : qBit (nI m) t = nI (m / 2 ^ t % 2) := by
  rw [qBit_bt _ ht, nI_tb hm]
  have : m.testBit t = decide (m / 2 ^ t % 2 = 1) := by rw [Nat.testBit_eq_decide_div_mod_eq]
  rw [this]
  rcases Nat.mod_two_eq_zero_or_one (m / 2 ^ t) with h | h <;> rw [h] <;> rfl
theorem qCnt_nI {m : Nat} (hm : m < 2 ^ 32) : ∀ k, k ≤ 32 → qCnt (nI m) k = nI (pcn m k) := by
  intro k
  induction k with
  | zero => intro _; rfl
  | succ k ih =>
    intro hk
    show qCnt (nI m) k + qBit (nI m) k = nI (pcn m k + m / 2 ^ k % 2)
    rw [ih (by omega), qBit_nI hm (by omega), nI_add]
theorem pc8_m (x : Nat) : pc8 (x % 256) = pc8 x := by
  unfold pc8
  have e1 : x % 256 % 2 = x % 2 := by omega
  have e2 : x % 256 / 2 % 2 = x / 2 % 2 := by omega
  have e3 : x % 256 / 4 % 2 = x / 4 % 2 := by omega
  have e4 : x % 256 / 8 % 2 = x / 8 % 2 := by omega
  have e5 : x % 256 / 16 % 2 = x / 16 % 2 := by omega
  have e6 : x % 256 / 32 % 2 = x / 32 % 2 := by omega
  have e7 : x % 256 / 64 % 2 = x / 64 % 2 := by omega
  have e8 : x % 256 / 128 % 2 = x / 128 % 2 := by omega
  rw [e1, e2, e3, e4, e5, e6, e7, e8]
theorem pcn_8 (m : Nat) : pcn m 32 = pc8 (m % 256) + pc8 (m / 256 % 256) + pc8 (m / 65536 % 256) + pc8 (m / 16777216) := by
  rw [pc8_m, pc8_m, pc8_m]
  unfold pc8
  simp only [pcn, Nat.div_div_eq_div_mul, Nat.reduceMul, Nat.reducePow, Nat.zero_add, Nat.div_one]
  simp only [Nat.add_assoc]
theorem bc_sum (a b c d : Nat) (ha : a ≤ 8) (hb : b ≤ 8) (hc : c ≤ 8) (hd : d ≤ 8) : (a + 256 * b + 65536 * c + 16777216 * d + (a + 256 * b + 65536 * c + 16777216 * d) / 2 ^ 8 + (a + 256 * b + 65536 * c + 16777216 * d + (a + 256 * b + 65536 * c + 16777216 * d) / 2 ^ 8) / 2 ^ 16) % 2 ^ 6 = a + b + c + d := by
  rw [show (a + 256 * b + 65536 * c + 16777216 * d) / 2 ^ 8 = b + 256 * c + 65536 * d by omega]
  rw [show (a + 256 * b + 65536 * c + 16777216 * d + (b + 256 * c + 65536 * d)) / 2 ^ 16 = c + d + 256 * d by omega]
  rw [show (a + 256 * b + 65536 * c + 16777216 * d + (b + 256 * c + 65536 * d) + (c + d + 256 * d)) = (a + b + c + d) + 2 ^ 6 * (4 * (b + c + d) + 1024 * (c + d) + 262144 * d) by omega, Nat.add_mul_mod_self_left]
  exact Nat.mod_eq_of_lt (by omega)
theorem bc_w (x : Int32) (w : zWd) : mJ6_bitCount_0f7a4 x w = some (qCnt x 32, w) := by
  have hm := x.toBitVec.isLt
  have hx := i_nat x
  generalize x.toBitVec.toNat = m at hm hx
  subst hx
  rw [qCnt_nI hm 32 (by omega), pcn_8]
  obtain ⟨b0, g0⟩ : ∃ b, b = m % 256 := ⟨_, rfl⟩
  obtain ⟨b1, g1⟩ : ∃ b, b = m / 256 % 256 := ⟨_, rfl⟩
  obtain ⟨b2, g2⟩ : ∃ b, b = m / 65536 % 256 := ⟨_, rfl⟩
  obtain ⟨b3, g3⟩ : ∃ b, b = m / 16777216 := ⟨_, rfl⟩
  have em : m = b0 + 256 * b1 + 65536 * b2 + 16777216 * b3 := by omega
  have d0 := bc_d b0 (by omega)
  have d1 := bc_d b1 (by omega)
  have d2 := bc_d b2 (by omega)
  have d3 := bc_d b3 (by omega)
  rw [← g0, ← g1, ← g2, ← g3]
  unfold mJ6_bitCount_0f7a4
  simp only [zbn_e]
  rw [show (1 : Int32) = nI 1 from rfl, show (2 : Int32) = nI 2 from rfl, show (4 : Int32) = nI 4 from rfl, show (8 : Int32) = nI 8 from rfl, show (16 : Int32) = nI 16 from rfl, show (1431655765 : Int32) = nI 1431655765 from rfl, show (858993459 : Int32) = nI 858993459 from rfl, show (252645135 : Int32) = nI 252645135 from rfl, show (63 : Int32) = nI 63 from rfl]
  have a0 := bc_a b0 (by omega) 0 (by omega)
  have a1 := bc_a b1 (by omega) 0 (by omega)
  have a2 := bc_a b2 (by omega) 0 (by omega)
  have a3 := bc_a b3 (by omega) 0 (by omega)
  have x1 : nI m - (((nI m).toUInt32 >>> ((nI 1).toUInt32 &&& Int32.toUInt32 31)).toInt32 &&& nI 1431655765) = nI (pb1 b0 + 256 * pb1 b1 + 65536 * pb1 b2 + 16777216 * pb1 b3) := by
    rw [nI_ushr hm (by decide), nI_and2 _ _ (Nat.lt_of_le_of_lt (Nat.div_le_self _ _) hm) (by decide)]
    rw [show m / 2 ^ 1 = m / 2 from rfl, em, bc_nat b0 b1 b2 b3 (by omega) (by omega) (by omega) (by omega)]
    rw [nI_sub2 (by omega)]
    unfold pb1
    congr 1
    omega
  rw [x1]
  generalize pb1 b0 = c0 at *
  generalize pb1 b1 = c1 at *
  generalize pb1 b2 = c2 at *
  generalize pb1 b3 = c3 at *
  have x2 : (nI (c0 + 256 * c1 + 65536 * c2 + 16777216 * c3) &&& nI 858993459) + (((nI (c0 + 256 * c1 + 65536 * c2 + 16777216 * c3)).toUInt32 >>> ((nI 2).toUInt32 &&& Int32.toUInt32 31)).toInt32 &&& nI 858993459) = nI (pb2 c0 + 256 * pb2 c1 + 65536 * pb2 c2 + 16777216 * pb2 c3) := by
    rw [nI_ushr (by omega) (by decide), nI_and2 _ _ (by omega) (by decide), nI_and2 _ _ (by omega) (by decide), nI_add, bc_nat2 c0 c1 c2 c3 (by omega) (by omega) (by omega) (by omega)]
  rw [x2]
  generalize pb2 c0 = k0 at *
  generalize pb2 c1 = k1 at *
  generalize pb2 c2 = k2 at *
  generalize pb2 c3 = k3 at *
  have x3 : (nI (k0 + 256 * k1 + 65536 * k2 + 16777216 * k3) + ((nI (k0 + 256 * k1 + 65536 * k2 + 16777216 * k3)).toUInt32 >>> ((nI 4).toUInt32 &&& Int32.toUInt32 31)).toInt32) &&& nI 252645135 = nI (pb3 k0 + 256 * pb3 k1 + 65536 * pb3 k2 + 16777216 * pb3 k3) := by
    rw [nI_ushr (by omega) (by decide), nI_add, nI_and2 _ _ (by omega) (by decide), show (2 : Nat) ^ 4 = 16 from rfl, bc_nat3 k0 k1 k2 k3 (by omega) (by omega) (by omega) (by omega)]
  rw [x3]
  rw [d0.2.2.2.1, d1.2.2.2.1, d2.2.2.2.1, d3.2.2.2.1]
  have q0 := d0.2.2.2.2
  have q1 := d1.2.2.2.2
  have q2 := d2.2.2.2.2
  have q3 := d3.2.2.2.2
  generalize pc8 b0 = p0 at *
  generalize pc8 b1 = p1 at *
  generalize pc8 b2 = p2 at *
  generalize pc8 b3 = p3 at *
  rw [nI_ushr (by omega) (by decide), nI_add, nI_ushr (by omega) (by decide), nI_add]
  rw [show (nI 63 : Int32) = nI (2 ^ 6 - 1) from rfl, nI_and2 _ _ (by omega) (by decide), Nat.and_two_pow_sub_one_eq_mod]
  rw [bc_sum _ _ _ _ q0 q1 q2 q3]
/-! sums -/
def qSum (f : Nat → Int32) : Nat → Int32
  | 0 => 0
  | k + 1 => qSum f k + f k
theorem qSum_c {f g : Nat → Int32} {n : Nat} (h : ∀ i, i < n → f i = g i) : qSum f n = qSum g n := by
  induction n with
  | zero => rfl
  | succ n ih => show qSum f n + f n = qSum g n + g n; rw [ih (fun i hi => h i (by omega)), h n (by omega)]
theorem qCnt_s (x : Int32) (n : Nat) : qCnt x n = qSum (qBit x) n := by
  induction n with
  | zero => rfl
  | succ n ih => show qCnt x n + qBit x n = qSum (qBit x) n + qBit x n; rw [ih]
theorem qCnt_top {x : Int32} {k : Nat} (hk : k ≤ 31) (h : 0 ≤ x.toInt ∧ x.toInt < 2 ^ k) : qCnt x 32 = qCnt x k := by
  have key : ∀ j, k + j ≤ 32 → qCnt x (k + j) = qCnt x k := by
    intro j
    induction j with
    | zero => intro _; rfl
    | succ j ih =>
      intro hj
      show qCnt x (k + j) + qBit x (k + j) = qCnt x k
      rw [ih (by omega), qBit_bt x (by omega), (bt_rng x k hk).mpr h (k + j) (by omega) (by omega)]
      exact Int32.add_zero _
  have := key (32 - k) (by omega)
  rwa [show k + (32 - k) = 32 by omega] at this
theorem qCnt_nat {x : Int32} (k : Nat) (hk : k ≤ 32) : ∃ c, c ≤ k ∧ qCnt x k = nI c := by
  induction k with
  | zero => exact ⟨0, by omega, rfl⟩
  | succ k ih =>
    obtain ⟨c, h1, h2⟩ := ih (by omega)
    show ∃ c, c ≤ k + 1 ∧ qCnt x k + qBit x k = nI c
    rcases qBit01 x (show k < 32 by omega) with e | e
    · exact ⟨c, by omega, by rw [e, h2]; exact Int32.add_zero _⟩
    · exact ⟨c + 1, by omega, by rw [e, h2, nI_1]⟩
/-- one more, unless it was set -/
theorem qCnt_or {x : Int32} {t : Nat} : ∀ k, k ≤ 32 → t < 32 → qCnt (x ||| ((1 : Int32) <<< (nI t &&& 31))) k = if t < k ∧ qBit x t = 0 then qCnt x k + 1 else qCnt x k := by
  intro k
  induction k with
  | zero => intro _ _; rw [if_neg (by omega)]; rfl
  | succ k ih =>
    intro hk ht
    show qCnt (x ||| ((1 : Int32) <<< (nI t &&& 31))) k + qBit (x ||| ((1 : Int32) <<< (nI t &&& 31))) k = if t < k + 1 ∧ qBit x t = 0 then qCnt x k + qBit x k + 1 else qCnt x k + qBit x k
    rw [ih (by omega) ht, qBit_or x ht (by omega)]
    by_cases e : k = t
    · subst e
      rw [if_pos rfl, if_neg (by omega)]
      rcases qBit01 x ht with g | g
      · rw [if_pos ⟨by omega, g⟩, g, Int32.add_zero]
      · rw [if_neg (by rw [g]; rintro ⟨_, q⟩; exact absurd q (by decide)), g]
    · rw [if_neg e]
      by_cases g : t < k ∧ qBit x t = 0
      · rw [if_pos g, if_pos ⟨by omega, g.2⟩, Int32.add_assoc, Int32.add_assoc, Int32.add_comm 1]
      · rw [if_neg g, if_neg (fun q => g ⟨by omega, q.2⟩)]
