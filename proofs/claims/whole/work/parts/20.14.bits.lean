/-! pasted from the laws: Int32 by its bits -/
def bt (x : Int32) (i : Nat) : Bool := x.toBitVec.getLsbD i
theorem b_ext {x y : Int32} (h : ∀ i, i < 32 → bt x i = bt y i) : x = y := Int32.toBitVec_inj.mp (BitVec.eq_of_getLsbD_eq (fun i hi => h i hi))
theorem b_or (x y : Int32) (i : Nat) : bt (x ||| y) i = (bt x i || bt y i) := by unfold bt; rw [Int32.toBitVec_or, BitVec.getLsbD_or]
theorem b_and (x y : Int32) (i : Nat) : bt (x &&& y) i = (bt x i && bt y i) := by unfold bt; rw [Int32.toBitVec_and, BitVec.getLsbD_and]
theorem b_xor (x y : Int32) (i : Nat) : bt (x ^^^ y) i = (bt x i ^^ bt y i) := by unfold bt; rw [Int32.toBitVec_xor, BitVec.getLsbD_xor]
theorem b_big {x : Int32} {i : Nat} (h : 32 ≤ i) : bt x i = false := BitVec.getLsbD_of_ge _ _ h
theorem b_255 (i : Nat) : bt 255 i = decide (i < 8) := by
  rcases Nat.lt_or_ge i 32 with h | h
  · exact (by decide +kernel : ∀ i, i < 32 → bt 255 i = decide (i < 8)) i h
  · rw [b_big h, decide_eq_false (by omega)]
theorem b_65535 (i : Nat) : bt 65535 i = decide (i < 16) := by
  rcases Nat.lt_or_ge i 32 with h | h
  · exact (by decide +kernel : ∀ i, i < 32 → bt 65535 i = decide (i < 16)) i h
  · rw [b_big h, decide_eq_false (by omega)]
theorem b_m1 : ∀ i, i < 32 → bt (-1) i = true := by decide +kernel
theorem b_0 (i : Nat) : bt 0 i = false := BitVec.getLsbD_zero
theorem s_l : ∀ n, n < 32 → ((nI n &&& 31).toBitVec.smod 32).toNat = n := by decide +kernel
theorem s_u : ∀ n, n < 32 → (((nI n).toUInt32 &&& Int32.toUInt32 31).toBitVec % 32).toNat = n := by decide +kernel
theorem b_shl (n : Nat) (hn : n < 32) (x : Int32) {i : Nat} (hi : i < 32) : bt (x <<< (nI n &&& 31)) i = (decide (n ≤ i) && bt x (i - n)) := by
  unfold bt
  rw [Int32.toBitVec_shiftLeft]
  show (x.toBitVec <<< ((nI n &&& 31).toBitVec.smod 32).toNat).getLsbD i = _
  rw [s_l n hn, BitVec.getLsbD_shiftLeft]
  rcases Nat.lt_or_ge i n with h | h
  · simp [h, Nat.not_le.mpr h]
  · simp [hi, h, Nat.not_lt.mpr h]
theorem b_ushr (n : Nat) (hn : n < 32) (x : Int32) (i : Nat) : bt ((x.toUInt32 >>> ((nI n).toUInt32 &&& Int32.toUInt32 31)).toInt32) i = bt x (n + i) := by
  show (x.toUInt32 >>> ((nI n).toUInt32 &&& Int32.toUInt32 31)).toBitVec.getLsbD i = x.toUInt32.toBitVec.getLsbD (n + i)
  rw [UInt32.toBitVec_shiftRight]
  show (x.toUInt32.toBitVec >>> (((nI n).toUInt32 &&& Int32.toUInt32 31).toBitVec % 32).toNat).getLsbD i = _
  rw [s_u n hn, BitVec.getLsbD_ushiftRight]
theorem b_sshr (n : Nat) (hn : n < 32) (x : Int32) {i : Nat} (hi : i < 32) : bt (x >>> (nI n &&& 31)) i = if n + i < 32 then bt x (n + i) else bt x 31 := by
  unfold bt
  rw [Int32.toBitVec_shiftRight]
  show (x.toBitVec.sshiftRight ((nI n &&& 31).toBitVec.smod 32).toNat).getLsbD i = _
  rw [s_l n hn, BitVec.getLsbD_sshiftRight, BitVec.msb_eq_getLsbD_last]
  simp [hi]
theorem b_shl8 (x : Int32) {i : Nat} (hi : i < 32) : bt (x <<< ((8 : Int32) &&& 31)) i = (decide (8 ≤ i) && bt x (i - 8)) := b_shl 8 (by omega) x hi
theorem b_shl16 (x : Int32) {i : Nat} (hi : i < 32) : bt (x <<< ((16 : Int32) &&& 31)) i = (decide (16 ≤ i) && bt x (i - 16)) := b_shl 16 (by omega) x hi
theorem b_shl24 (x : Int32) {i : Nat} (hi : i < 32) : bt (x <<< ((24 : Int32) &&& 31)) i = (decide (24 ≤ i) && bt x (i - 24)) := b_shl 24 (by omega) x hi
theorem b_sshr8 (x : Int32) {i : Nat} (hi : i < 32) : bt (x >>> ((8 : Int32) &&& 31)) i = if 8 + i < 32 then bt x (8 + i) else bt x 31 := b_sshr 8 (by omega) x hi
/-! bits of the masks -/
theorem bt1 : ∀ i, i < 32 → bt 1 i = decide (i = 0) := by decide +kernel
theorem qBit_bt (x : Int32) {t : Nat} (ht : t < 32) : qBit x t = if bt x t then 1 else 0 := by
  unfold qBit
  refine b_ext (fun i hi => ?_)
  rw [b_and, b_sshr t ht x hi, bt1 i hi]
  by_cases e : i = 0
  · subst e
    rw [if_pos (by omega), Nat.add_zero]
    cases h : bt x t <;> simp <;> decide
  · simp only [e, decide_false, Bool.and_false]
    cases bt x t
    · simp only [Bool.false_eq_true, if_false]; rw [b_0]
    · simp only [if_true]; rw [bt1 i hi]; simp [e]
theorem bt_1shl {t i : Nat} (ht : t < 32) (hi : i < 32) : bt ((1 : Int32) <<< (nI t &&& 31)) i = decide (i = t) := by
  rw [b_shl t ht 1 hi]
  by_cases h : t ≤ i
  · rw [bt1 (i - t) (by omega)]
    simp only [h, decide_true, Bool.true_and]
    congr 1
    exact propext (by omega)
  · simp only [h, decide_false, Bool.false_and]
    exact (decide_eq_false (by omega)).symm
theorem qBit_or (x : Int32) {t u : Nat} (ht : t < 32) (hu : u < 32) : qBit (x ||| ((1 : Int32) <<< (nI t &&& 31))) u = if u = t then 1 else qBit x u := by
  rw [qBit_bt _ hu, qBit_bt _ hu, b_or, bt_1shl ht hu]
  by_cases e : u = t
  · simp [e]
  · simp [e]
theorem qBit_an (x : Int32) {t u : Nat} (ht : t < 32) (hu : u < 32) : qBit (x &&& (((1 : Int32) <<< (nI t &&& 31)) ^^^ -1)) u = if u = t then 0 else qBit x u := by
  rw [qBit_bt _ hu, qBit_bt _ hu, b_and, b_xor, bt_1shl ht hu, b_m1 u hu]
  by_cases e : u = t
  · simp [e]
  · simp [e]
theorem qBit01 (x : Int32) {t : Nat} (ht : t < 32) : qBit x t = 0 ∨ qBit x t = 1 := by
  rw [qBit_bt x ht]; cases bt x t
  · exact Or.inl rfl
  · exact Or.inr rfl
theorem i_nat (x : Int32) : x = nI x.toBitVec.toNat := Int32.toBitVec_inj.mp (by show _ = BitVec.ofNat 32 _; simp)
theorem bt_rng (x : Int32) (k : Nat) (hk : k ≤ 31) : (∀ i, k ≤ i → i < 32 → bt x i = false) ↔ 0 ≤ x.toInt ∧ x.toInt < 2 ^ k := by
  have hm := x.toBitVec.isLt
  have hx := i_nat x
  have hb : ∀ i, bt x i = x.toBitVec.toNat.testBit i := fun i => rfl
  generalize x.toBitVec.toNat = m at hm hx hb
  subst hx
  have hp : (2 : Nat) ^ k ≤ 2 ^ 31 := Nat.pow_le_pow_right (by decide) hk
  constructor
  · intro h
    have h2 : m < 2 ^ k := Nat.lt_pow_two_of_testBit m (fun i hi => by
      by_cases h32 : i < 32
      · rw [← hb]; exact h i hi h32
      · exact Nat.testBit_lt_two_pow (Nat.lt_of_lt_of_le hm (Nat.pow_le_pow_right (by decide) (by omega))))
    rw [nI_toInt (by omega)]
    have : ((2 ^ k : Nat) : Int) = 2 ^ k := by simp
    omega
  · rintro ⟨h1, h2⟩ i hi h32
    have hm2 : m < 2 ^ 31 := by
      rcases Nat.lt_or_ge m (2 ^ 31) with g | g
      · exact g
      · exfalso
        have : (nI m).toInt = (m : Int) - 2 ^ 32 := by
          show (BitVec.ofNat 32 m).toInt = _
          rw [BitVec.toInt_eq_toNat_cond, BitVec.toNat_ofNat, Nat.mod_eq_of_lt hm, if_neg (by omega)]
          rfl
        omega
    rw [nI_toInt hm2] at h2
    have : ((2 ^ k : Nat) : Int) = 2 ^ k := by simp
    rw [hb]
    exact Nat.testBit_lt_two_pow (Nat.lt_of_lt_of_le (by omega) (Nat.pow_le_pow_right (by decide) hi))
theorem or_rng {x : Int32} {t k : Nat} (hk : k ≤ 31) (ht : t < k) (h : 0 ≤ x.toInt ∧ x.toInt < 2 ^ k) : 0 ≤ (x ||| ((1 : Int32) <<< (nI t &&& 31))).toInt ∧ (x ||| ((1 : Int32) <<< (nI t &&& 31))).toInt < 2 ^ k := by
  refine (bt_rng _ k hk).mp (fun i h1 h2 => ?_)
  rw [b_or, (bt_rng x k hk).mpr h i h1 h2, bt_1shl (by omega) h2]
  simp; omega
