def qByte (v : Int64) (j : Nat) : Int32 := (((v.toUInt64 >>> (((8 : Int32) * nI j).toInt64.toUInt64 &&& Int64.toUInt64 63)).toInt64).toInt32) &&& 255
theorem fd_a : ∀ j, j < 8 → ((((8 : Int32) * nI j).toInt64.toUInt64 &&& Int64.toUInt64 63).toBitVec % 64).toNat = 8 * j := by decide +kernel
theorem fd_b : ∀ j, j < 8 → ((((8 : Int32) * nI j).toInt64 &&& 63).toBitVec.smod 64).toNat = 8 * j := by decide +kernel
theorem fd_c : ∀ i, i < 32 → BitVec.getLsbD (255#32) i = decide (i < 8) := by decide +kernel
theorem fd_d : ∀ i, i < 32 → BitVec.getLsbD (255#64) i = decide (i < 8) := by decide +kernel
theorem fd_byte (v : Int64) {j : Nat} (hj : j < 8) : ((v >>> (((8 : Int32) * nI j).toInt64 &&& 63)) &&& (255 : Int64)).toInt32 = qByte v j := by
  unfold qByte
  apply Int32.toBitVec_inj.mp
  apply BitVec.eq_of_getLsbD_eq
  intro i hi
  rw [Int32.toBitVec_and]
  show (BitVec.signExtend 32 ((v >>> (((8 : Int32) * nI j).toInt64 &&& 63)) &&& (255 : Int64)).toBitVec).getLsbD i = ((BitVec.signExtend 32 (v.toUInt64 >>> (((8 : Int32) * nI j).toInt64.toUInt64 &&& Int64.toUInt64 63)).toBitVec) &&& 255#32).getLsbD i
  rw [Int64.toBitVec_and, Int64.toBitVec_shiftRight, UInt64.toBitVec_shiftRight]
  show (BitVec.signExtend 32 ((v.toBitVec.sshiftRight ((((8 : Int32) * nI j).toInt64 &&& 63).toBitVec.smod 64).toNat) &&& 255#64)).getLsbD i = ((BitVec.signExtend 32 (v.toBitVec >>> ((((8 : Int32) * nI j).toInt64.toUInt64 &&& Int64.toUInt64 63).toBitVec % 64).toNat)) &&& 255#32).getLsbD i
  rw [fd_a j hj, fd_b j hj, BitVec.getLsbD_signExtend, BitVec.getLsbD_and, BitVec.getLsbD_and, BitVec.getLsbD_signExtend, fd_c i hi, fd_d i hi, BitVec.getLsbD_sshiftRight, BitVec.getLsbD_ushiftRight, if_pos (show i < 64 by omega), if_pos (show i < 64 by omega)]
  by_cases h8 : i < 8
  · have : 8 * j + i < 64 := by omega
    simp [hi, h8, this]
    omega
  · simp [h8]
theorem qByte_rg (v : Int64) (j : Nat) : 0 ≤ (qByte v j).toInt ∧ (qByte v j).toInt ≤ 255 := by
  unfold qByte
  generalize ((v.toUInt64 >>> (((8 : Int32) * nI j).toInt64.toUInt64 &&& Int64.toUInt64 63)).toInt64).toInt32 = x
  rw [i_nat x, show (255 : Int32) = nI 255 from rfl, nI_and2 _ _ x.toBitVec.isLt (by decide)]
  have : x.toBitVec.toNat &&& 255 ≤ 255 := Nat.and_le_right
  rw [nIi (by omega)]
  omega
theorem fd_cl (v : Int64) (j : Nat) : (((v.toUInt64 >>> (((8 : Int32) * nI j).toInt64.toUInt64 &&& Int64.toUInt64 63)).toInt64).toInt32) &&& 255 = qByte v j := rfl
theorem fd_e {K i : Nat} (hK : 1 ≤ K) (hi : i ≤ K) : nI K - 1 - nI i = if i < K then nI (K - 1 - i) else -1 := by
  by_cases g : i < K
  · rw [if_pos g, show (1 : Int32) = nI 1 from rfl, nI_sub2 (by omega), nI_sub2 (by omega)]
  · rw [if_neg g, show i = K by omega, Int32.sub_sub, Int32.add_comm, ← Int32.sub_sub, Int32.sub_self]; rfl
theorem fd_f {K i : Nat} (hi : i < K) : nI (K - 1 - i) + -1 = nI K - 1 - nI (i + 1) := by
  rw [nI_succ, ← Int32.sub_sub, fd_e (by omega) (by omega), if_pos hi, Int32.sub_eq_add_neg]
def cFd (w : zWd) (v : Int64) (K S : Nat) : Nat → zWd
  | 0 => w
  | i + 1 => zup (zup (cFd w v K S i) 13 (S + i) (qByte v (K - 1 - i))) 12 0 (nI (S + i + 1))
def mFd (w : zWd) (v : Int64) (K S : Nat) : Nat → zWd
  | 0 => w
  | i + 1 => zup (zup (mFd w v K S i) 232 (1880 + (S + i)) (qByte v (K - 1 - i))) 232 6 (nI (S + i + 1))
theorem cFd_0 {w : zWd} {v : Int64} {K S : Nat} (h : w 12 0 = nI S) : ∀ i, cFd w v K S i 12 0 = nI (S + i)
  | 0 => h
  | i + 1 => by unfold cFd; rw [zu3]; rfl
theorem mFd_0 {w : zWd} {v : Int64} {K S : Nat} (h : w 232 6 = nI S) : ∀ i, mFd w v K S i 232 6 = nI (S + i)
  | 0 => h
  | i + 1 => by unfold mFd; rw [zu3]; rfl
theorem cFd_s (w : zWd) (v : Int64) (K S : Nat) : ∀ i, cFd w v K S i 232 = w 232
  | 0 => rfl
  | i + 1 => by unfold cFd; rw [zpE _ _ _ (by decide), zpE _ _ _ (by decide), cFd_s w v K S i]
theorem mFd_v (w : zWd) (v : Int64) (K S : Nat) : ∀ i, qVw (mFd w v K S i) 1 = qVw w 1
  | 0 => rfl
  | i + 1 => by unfold mFd; rw [qV1 _ _ _ (by decide), qV1 _ _ _ (by decide), mFd_v w v K S i]
theorem cFd_f (w : zWd) (v : Int64) (K S : Nat) : ∀ i, qFm w (cFd w v K S i)
  | 0 => qFm.rf w
  | i + 1 => by unfold cFd; exact ((cFd_f w v K S i).up _ _ (by decide) (by omega)).up _ _ (by decide) (by omega)
theorem mFd_f (w : zWd) (v : Int64) (K S : Nat) : ∀ i, qFm w (mFd w v K S i)
  | 0 => qFm.rf w
  | i + 1 => by unfold mFd; exact ((mFd_f w v K S i).up _ _ (by decide) (by omega)).up _ _ (by decide) (by omega)
theorem mFd_t (w : zWd) (v : Int64) (K S : Nat) : ∀ i, mFd w v K S i 232 0 = w 232 0
  | 0 => rfl
  | i + 1 => by unfold mFd; rw [zu2 _ _ (by omega), zu2 _ _ (by omega), mFd_t w v K S i]
theorem fd_rel {w u : zWd} {p : Nat → Int32} (v : Int64) {K S : Nat} (hS : S + K ≤ 120) (h : qRk (qVw w 1) (u 232) p) (hg : qGl (u 232)) : ∀ i, i ≤ K → qRk (qVw (cFd w v K S i) 1) (mFd u v K S i 232) p ∧ qGl (mFd u v K S i 232) := by
  intro i
  induction i with
  | zero => intro _; exact ⟨h, hg⟩
  | succ i ih =>
    intro hi
    obtain ⟨h1, h2⟩ := ih (by omega)
    unfold cFd mFd
    simp (disch := omega) only [qV1, qV3, qup_s, zpE, Nat.reduceSub, Nat.reduceAdd]
    have hb := qByte_rg v (K - 1 - i)
    exact ⟨(qRk_put ((qRk_put (h1) 12 rfl (i := S + i) (by omega) (by omega) (by omega) (by omega) (by omega) (lo := 1880) (hi := 2000) (a1 := 0) (a2 := 255) (by decide) (by omega) (by omega) (by omega))) 6 rfl (i := 0) (by omega) (by omega) (by omega) (by omega) (by omega) (lo := 6) (hi := 7) (a1 := 0) (a2 := 120) (by decide) (by omega) (by omega) (by (rw [nIi (by omega)]; omega))), (h2.s_ (by omega)).s_ (by omega)⟩
theorem s_add {w : zWd} (v : Int64) {K S : Nat} (hK : 1 ≤ K ∧ K ≤ 8) (hS : S + K ≤ 120) (e : w 12 0 = nI S) : mX9_add 12 v (nI K) w = some ((), cFd w v K S K) := by
  unfold mX9_add mX9_add_5
  rw [zbn_e]
  refine zlp_to (P := fun i q => q = (nI K - 1 - nI i, cFd w v K S i)) (n := K) (by unfold zFU; omega) ?_ (by show _ = (nI K - 1 - nI 0, w); rw [show (nI 0 : Int32) = 0 from rfl, Int32.sub_zero])
  rintro i hi q rfl k hk
  have e1 := fd_e (K := K) (i := i) hK.1 hi
  simp only [mX9_add_5b]
  by_cases h : i = K
  · subst h
    rw [if_neg (by omega)] at e1
    simp only [e1, mX9_add_56]
    simp (disch := (first | omega | (simp (disch := omega) only [zu1, zu2, zu3, nIi]; omega))) only [if_true, if_false, zE10, zE00, zOkN, Nat.reduceAdd, Nat.reduceMul, zcl_s, zif01, zbn_e, nIi, nI_clamp, nI_add, nI_1, pk_mul, zgi, zlt, zle, Int32.zero_add, Int32.add_zero, C0, C1, G0, G1, Nat.zero_add, Nat.add_zero, l2, l3, l4, l5, l6, l7, l8, l10, l11, l12, l20, l30, l48, l50, l60, l100, l120, l140, l152, l164, l176, l188, l200, l212, l224, l1604, l1880, l2000, l2008, l2016, l2024, l2032, l2040, l2048, l2210, l2240, l2270, l2300, l2330, l2390, l2450, l2510, l2570, l2590, l2620, l2650, l2660, l2700, T0, T1, Tm1, Tm99, Tm999, p_within, p_in, p_isCell, p_isOwner, p_isDay11, p_isDay12, p_isTap11, p_isTaker11, if_pos, if_neg, p_isTap12, p_isTaker12, p_isGone, zu1, zu2, zu3, nIe, Nat.reduceSub]
  · rw [if_pos (by omega)] at e1
    simp only [e1]
    rw [fd_cl]
    simp (disch := (first | omega | (simp (disch := omega) only [zu1, zu2, zu3, nIi, cFd_0 e, T120]; omega))) only [if_true, if_false, zE10, zE00, zOkN, Nat.reduceAdd, Nat.reduceMul, zcl_s, zif01, zbn_e, nIi, nI_clamp, nI_add, nI_1, pk_mul, zgi, zlt, zle, Int32.zero_add, Int32.add_zero, C0, C1, G0, G1, Nat.zero_add, Nat.add_zero, l2, l3, l4, l5, l6, l7, l8, l10, l11, l12, l20, l30, l48, l50, l60, l100, l120, l140, l152, l164, l176, l188, l200, l212, l224, l1604, l1880, l2000, l2008, l2016, l2024, l2032, l2040, l2048, l2210, l2240, l2270, l2300, l2330, l2390, l2450, l2510, l2570, l2590, l2620, l2650, l2660, l2700, T0, T1, Tm1, Tm99, Tm999, p_within, p_in, p_isCell, p_isOwner, p_isDay11, p_isDay12, p_isTap11, p_isTaker11, if_pos, if_neg, p_isTap12, p_isTaker12, p_isGone, zu1, zu2, zu3, nIe, Nat.reduceSub, cFd_0 e, T120]
    refine hk (by omega) _ ?_
    show (_, _) = (nI K - 1 - nI (i + 1), _)
    rw [← fd_f (by omega)]
    rfl
theorem s_feed12 {w : zWd} (v : Int64) {K S : Nat} (hK : 1 ≤ K ∧ K ≤ 8) (hS : S + K ≤ 120) (e : w 232 6 = nI S) : mX12_feed_35 231 v (nI K - 1) w = some (nI (S + K), mFd w v K S K) := by
  unfold mX12_feed_35
  refine zlp_to (P := fun i q => q = (nI K - 1 - nI i, mFd w v K S i)) (n := K) (by unfold zFU; omega) ?_ (by show _ = (nI K - 1 - nI 0, w); rw [show (nI 0 : Int32) = 0 from rfl, Int32.sub_zero])
  rintro i hi q rfl k hk
  have e1 := fd_e (K := K) (i := i) hK.1 hi
  simp only [mX12_feed_35b]
  by_cases h : i = K
  · subst h
    rw [if_neg (by omega)] at e1
    simp only [e1]
    simp (disch := (first | omega | (simp (disch := omega) only [zu1, zu2, zu3, nIi, mFd_0 e]; omega))) only [if_true, if_false, zE10, zE00, zOkN, Nat.reduceAdd, Nat.reduceMul, zcl_s, zif01, zbn_e, nIi, nI_clamp, nI_add, nI_1, pk_mul, zgi, zlt, zle, Int32.zero_add, Int32.add_zero, C0, C1, G0, G1, Nat.zero_add, Nat.add_zero, l2, l3, l4, l5, l6, l7, l8, l10, l11, l12, l20, l30, l48, l50, l60, l100, l120, l140, l152, l164, l176, l188, l200, l212, l224, l1604, l1880, l2000, l2008, l2016, l2024, l2032, l2040, l2048, l2210, l2240, l2270, l2300, l2330, l2390, l2450, l2510, l2570, l2590, l2620, l2650, l2660, l2700, T0, T1, Tm1, Tm99, Tm999, p_within, p_in, p_isCell, p_isOwner, p_isDay11, p_isDay12, p_isTap11, p_isTaker11, if_pos, if_neg, p_isTap12, p_isTaker12, p_isGone, zu1, zu2, zu3, nIe, Nat.reduceSub, mFd_0 e]
  · rw [if_pos (by omega)] at e1
    simp only [e1]
    rw [fd_byte v (by omega)]
    simp (disch := (first | omega | (simp (disch := omega) only [zu1, zu2, zu3, nIi, mFd_0 e]; omega))) only [if_true, if_false, zE10, zE00, zOkN, Nat.reduceAdd, Nat.reduceMul, zcl_s, zif01, zbn_e, nIi, nI_clamp, nI_add, nI_1, pk_mul, zgi, zlt, zle, Int32.zero_add, Int32.add_zero, C0, C1, G0, G1, Nat.zero_add, Nat.add_zero, l2, l3, l4, l5, l6, l7, l8, l10, l11, l12, l20, l30, l48, l50, l60, l100, l120, l140, l152, l164, l176, l188, l200, l212, l224, l1604, l1880, l2000, l2008, l2016, l2024, l2032, l2040, l2048, l2210, l2240, l2270, l2300, l2330, l2390, l2450, l2510, l2570, l2590, l2620, l2650, l2660, l2700, T0, T1, Tm1, Tm99, Tm999, p_within, p_in, p_isCell, p_isOwner, p_isDay11, p_isDay12, p_isTap11, p_isTaker11, if_pos, if_neg, p_isTap12, p_isTaker12, p_isGone, zu1, zu2, zu3, nIe, Nat.reduceSub, mFd_0 e]
    refine hk (by omega) _ ?_
    show (_, _) = (nI K - 1 - nI (i + 1), _)
    rw [← fd_f (by omega)]
    rfl
theorem u_feed {n : Nat} {w : zWd} (h : qInv n w) (v : Int64) (b : Int32) : qBoth n w (mX11_feed 0 v b) (mX12_feed 231 v b) := by
  obtain ⟨S, hS, e1, e2⟩ := q_taped h
  by_cases hb : 1 ≤ b.toInt ∧ b.toInt ≤ 8
  rotate_left
  · refine qBoth_id h (-2) ?_ (by unfold mX12_feed; simp (disch := (first | omega | (simp (disch := omega) only [zu1, zu2, zu3, nIi, T8]; omega))) only [if_true, if_false, zE10, zE00, zOkN, Nat.reduceAdd, Nat.reduceMul, zcl_s, zif01, zbn_e, nIi, nI_clamp, nI_add, nI_1, pk_mul, zgi, zlt, zle, Int32.zero_add, Int32.add_zero, C0, C1, G0, G1, Nat.zero_add, Nat.add_zero, l2, l3, l4, l5, l6, l7, l8, l10, l11, l12, l20, l30, l48, l50, l60, l100, l120, l140, l152, l164, l176, l188, l200, l212, l224, l1604, l1880, l2000, l2008, l2016, l2024, l2032, l2040, l2048, l2210, l2240, l2270, l2300, l2330, l2390, l2450, l2510, l2570, l2590, l2620, l2650, l2660, l2700, T0, T1, Tm1, Tm99, Tm999, p_within, p_in, p_isCell, p_isOwner, p_isDay11, p_isDay12, p_isTap11, p_isTaker11, if_pos, if_neg, p_isTap12, p_isTaker12, p_isGone, zu1, zu2, zu3, nIe, Nat.reduceSub, T8])
    unfold mX11_feed
    by_cases h1 : b.toInt < 1
    · simp (disch := (first | omega | (simp (disch := omega) only [zu1, zu2, zu3, nIi, mX11_feed_11]; omega))) only [if_true, if_false, zE10, zE00, zOkN, Nat.reduceAdd, Nat.reduceMul, zcl_s, zif01, zbn_e, nIi, nI_clamp, nI_add, nI_1, pk_mul, zgi, zlt, zle, Int32.zero_add, Int32.add_zero, C0, C1, G0, G1, Nat.zero_add, Nat.add_zero, l2, l3, l4, l5, l6, l7, l8, l10, l11, l12, l20, l30, l48, l50, l60, l100, l120, l140, l152, l164, l176, l188, l200, l212, l224, l1604, l1880, l2000, l2008, l2016, l2024, l2032, l2040, l2048, l2210, l2240, l2270, l2300, l2330, l2390, l2450, l2510, l2570, l2590, l2620, l2650, l2660, l2700, T0, T1, Tm1, Tm99, Tm999, p_within, p_in, p_isCell, p_isOwner, p_isDay11, p_isDay12, p_isTap11, p_isTaker11, if_pos, if_neg, p_isTap12, p_isTaker12, p_isGone, zu1, zu2, zu3, nIe, Nat.reduceSub, mX11_feed_11]
    · simp (disch := (first | omega | (simp (disch := omega) only [zu1, zu2, zu3, nIi, T8, mX11_feed_11]; omega))) only [if_true, if_false, zE10, zE00, zOkN, Nat.reduceAdd, Nat.reduceMul, zcl_s, zif01, zbn_e, nIi, nI_clamp, nI_add, nI_1, pk_mul, zgi, zlt, zle, Int32.zero_add, Int32.add_zero, C0, C1, G0, G1, Nat.zero_add, Nat.add_zero, l2, l3, l4, l5, l6, l7, l8, l10, l11, l12, l20, l30, l48, l50, l60, l100, l120, l140, l152, l164, l176, l188, l200, l212, l224, l1604, l1880, l2000, l2008, l2016, l2024, l2032, l2040, l2048, l2210, l2240, l2270, l2300, l2330, l2390, l2450, l2510, l2570, l2590, l2620, l2650, l2660, l2700, T0, T1, Tm1, Tm99, Tm999, p_within, p_in, p_isCell, p_isOwner, p_isDay11, p_isDay12, p_isTap11, p_isTaker11, if_pos, if_neg, p_isTap12, p_isTaker12, p_isGone, zu1, zu2, zu3, nIe, Nat.reduceSub, T8, mX11_feed_11]
  rcases zX b 9 9 rfl (by omega) with hb2 | ⟨K, hK, rfl⟩
  · exact absurd ⟨by omega, by omega⟩ hb2
  rw [nIi (by omega)] at hb
  by_cases hf : S + K ≤ 120
  · have g1 : mX11_feed 0 v (nI K) w = some (nI (S + K), cFd w v K S K) := by
      unfold mX11_feed
      simp (disch := (first | omega | (simp (disch := omega) only [zu1, zu2, zu3, nIi, T8, e1, T120, s_add v (by omega) hf e1, cFd_0 e1]; omega))) only [if_true, if_false, zE10, zE00, zOkN, Nat.reduceAdd, Nat.reduceMul, zcl_s, zif01, zbn_e, nIi, nI_clamp, nI_add, nI_1, pk_mul, zgi, zlt, zle, Int32.zero_add, Int32.add_zero, C0, C1, G0, G1, Nat.zero_add, Nat.add_zero, l2, l3, l4, l5, l6, l7, l8, l10, l11, l12, l20, l30, l48, l50, l60, l100, l120, l140, l152, l164, l176, l188, l200, l212, l224, l1604, l1880, l2000, l2008, l2016, l2024, l2032, l2040, l2048, l2210, l2240, l2270, l2300, l2330, l2390, l2450, l2510, l2570, l2590, l2620, l2650, l2660, l2700, T0, T1, Tm1, Tm99, Tm999, p_within, p_in, p_isCell, p_isOwner, p_isDay11, p_isDay12, p_isTap11, p_isTaker11, if_pos, if_neg, p_isTap12, p_isTaker12, p_isGone, zu1, zu2, zu3, nIe, Nat.reduceSub, T8, e1, T120, s_add v (by omega) hf e1, cFd_0 e1]
    have e2b : cFd w v K S K 232 6 = nI S := by rw [cFd_s]; exact e2
    have g2 : mX12_feed 231 v (nI K) (cFd w v K S K) = some (nI (S + K), mFd (cFd w v K S K) v K S K) := by
      unfold mX12_feed
      simp only [zbn_e]
      simp (disch := (first | omega | (simp (disch := omega) only [zu1, zu2, zu3, nIi, T8, e2b, T120]; omega))) only [if_true, if_false, zE10, zE00, zOkN, Nat.reduceAdd, Nat.reduceMul, zcl_s, zif01, zbn_e, nIi, nI_clamp, nI_add, nI_1, pk_mul, zgi, zlt, zle, Int32.zero_add, Int32.add_zero, C0, C1, G0, G1, Nat.zero_add, Nat.add_zero, l2, l3, l4, l5, l6, l7, l8, l10, l11, l12, l20, l30, l48, l50, l60, l100, l120, l140, l152, l164, l176, l188, l200, l212, l224, l1604, l1880, l2000, l2008, l2016, l2024, l2032, l2040, l2048, l2210, l2240, l2270, l2300, l2330, l2390, l2450, l2510, l2570, l2590, l2620, l2650, l2660, l2700, T0, T1, Tm1, Tm99, Tm999, p_within, p_in, p_isCell, p_isOwner, p_isDay11, p_isDay12, p_isTap11, p_isTaker11, if_pos, if_neg, p_isTap12, p_isTaker12, p_isGone, zu1, zu2, zu3, nIe, Nat.reduceSub, T8, e2b, T120]
      rw [← s_feed12 v (w := cFd w v K S K) (by omega) hf e2b]
    have hr := fd_rel (w := w) (u := cFd w v K S K) v hf (by rw [cFd_s]; exact h.1.k) (by rw [cFd_s]; exact qHd h.1) K (by omega)
    refine qBoth_mk h g1 g2 ((cFd_f w v K S K).tr (mFd_f _ v K S K)) (by rw [mFd_v]; exact hr.1) hr.2 ?_
    rw [mFd_t, cFd_s]
    exact Int.le_refl _
  · exact qBoth_id h (-4) (by unfold mX11_feed; simp (disch := (first | omega | (simp (disch := omega) only [zu1, zu2, zu3, nIi, T8, e1, T120]; omega))) only [if_true, if_false, zE10, zE00, zOkN, Nat.reduceAdd, Nat.reduceMul, zcl_s, zif01, zbn_e, nIi, nI_clamp, nI_add, nI_1, pk_mul, zgi, zlt, zle, Int32.zero_add, Int32.add_zero, C0, C1, G0, G1, Nat.zero_add, Nat.add_zero, l2, l3, l4, l5, l6, l7, l8, l10, l11, l12, l20, l30, l48, l50, l60, l100, l120, l140, l152, l164, l176, l188, l200, l212, l224, l1604, l1880, l2000, l2008, l2016, l2024, l2032, l2040, l2048, l2210, l2240, l2270, l2300, l2330, l2390, l2450, l2510, l2570, l2590, l2620, l2650, l2660, l2700, T0, T1, Tm1, Tm99, Tm999, p_within, p_in, p_isCell, p_isOwner, p_isDay11, p_isDay12, p_isTap11, p_isTaker11, if_pos, if_neg, p_isTap12, p_isTaker12, p_isGone, zu1, zu2, zu3, nIe, Nat.reduceSub, T8, e1, T120]) (by unfold mX12_feed; simp (disch := (first | omega | (simp (disch := omega) only [zu1, zu2, zu3, nIi, T8, e2, T120]; omega))) only [if_true, if_false, zE10, zE00, zOkN, Nat.reduceAdd, Nat.reduceMul, zcl_s, zif01, zbn_e, nIi, nI_clamp, nI_add, nI_1, pk_mul, zgi, zlt, zle, Int32.zero_add, Int32.add_zero, C0, C1, G0, G1, Nat.zero_add, Nat.add_zero, l2, l3, l4, l5, l6, l7, l8, l10, l11, l12, l20, l30, l48, l50, l60, l100, l120, l140, l152, l164, l176, l188, l200, l212, l224, l1604, l1880, l2000, l2008, l2016, l2024, l2032, l2040, l2048, l2210, l2240, l2270, l2300, l2330, l2390, l2450, l2510, l2570, l2590, l2620, l2650, l2660, l2700, T0, T1, Tm1, Tm99, Tm999, p_within, p_in, p_isCell, p_isOwner, p_isDay11, p_isDay12, p_isTap11, p_isTaker11, if_pos, if_neg, p_isTap12, p_isTaker12, p_isGone, zu1, zu2, zu3, nIe, Nat.reduceSub, T8, e2, T120])
