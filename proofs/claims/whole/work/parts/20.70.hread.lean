/-! the model reads a clause -/
theorem qNum_congr {f g : Nat → Int32} {n : Nat} (h : ∀ p, qB f n p = qB g n p) (p : Nat) : qNum f n p = qNum g n p := by unfold qNum; rw [h p, h (p + 1), h (p + 2)]
theorem qCm_congr {f g : Nat → Int32} {n : Nat} (h : ∀ p, qB f n p = qB g n p) : ∀ l p, qCm f n p l = qCm g n p l
  | [], p => rfl
  | c :: l, p => by unfold qCm; rw [h p, qCm_congr h l (p + 1)]
theorem qWs_congr {f g : Nat → Int32} {n : Nat} (h : ∀ p, qB f n p = qB g n p) (p : Nat) : qWs f n p = qWs g n p := by
  unfold qWs qWo
  simp only [h, qCm_congr h]
theorem qCl_congr {f g : Nat → Int32} {n : Nat} (h : ∀ p, qB f n p = qB g n p) (p : Nat) : qCl f n p = qCl g n p := by
  unfold qCl qShr
  simp only [h, qWs_congr h, qNum_congr h, qE_congr h]
section HR
variable {w0 B w : zWd} {a o p n k q : Nat} {T e v : Int32}
theorem qMs.s_ (h : qMs w0 a T o p e w) (j : Nat) (v : Int32) : qMs (zup w0 232 j v) a T o p e (zup w 232 j v) := by
  obtain ⟨⟨h0, h0b⟩, h1, h2, h3, h4, h5⟩ := h
  have z : ∀ (w : zWd), zup w 232 j v 231 = w 231 := fun w => zpE w j v (by decide)
  refine ⟨⟨fun k hk => ?_, fun i hi => by rw [z, z]; exact h0b i hi⟩, by rw [z]; exact h1, by rw [z]; exact h2, by rw [z]; exact h3, by rw [z]; exact h4, by rw [z]; exact h5⟩
  by_cases e : k = 232
  · subst e; rw [qup_s, qup_s, h0 232 hk]
  · rw [zpE _ _ _ e, zpE _ _ _ e]; exact h0 k hk
/-- THE TEXT stays when a place behind 1599 is put -/
theorem qTx.s_ (h : qTx w0 a n) {j : Nat} (hj : 1600 ≤ j) (v : Int32) : qTx (zup w0 232 j v) a n := ⟨h.1, h.2.1, by rw [zu2 _ _ (by have := h.1; omega)]; exact h.2.2⟩
theorem qFx_s (h : qTx w0 a n) (ha : a ≤ 10) {j : Nat} (hj : 1600 ≤ j) (v : Int32) (p : Nat) : qB (qFx (zup w0 232 j v) a) n p = qB (qFx w0 a) n p := by
  unfold qB qFx
  by_cases c : p < n
  · rw [if_pos c, if_pos c, zu2 _ _ (by have := h.2.1; omega)]
  · rw [if_neg c, if_neg c]
theorem h_told0 : qTold w0 (-1) 0 0 0 0 0 := by
  intro w _ h x
  unfold mX12_told
  rw [if_pos h]
  simp only [ite_self]
/-- an E behind a fault -/
theorem h_some1 (h : qMs w0 a T o p 1 w) : ∃ x w', mX12_some 231 w = some (x, w') ∧ qMs w0 a T o p 1 w' := by
  have n10 : ¬ (1 : Int32) = 0 := by decide
  refine ⟨0, w, ?_, h⟩
  show mX12_someb (mGS 39 0) (mGS 39 1) (mGS 39 2) 231 w = _
  unfold mX12_someb mX12_some_5
  rw [show mGS 39 1 231 w = mX12_everyb (mGS 38 0) (mGS 38 1) (mGS 38 2) 231 w from rfl]
  unfold mX12_everyb mX12_every_5
  rw [show mGS 38 2 231 w = mX12_factorb (mGS 37 0) (mGS 37 1) (mGS 37 2) 231 w from rfl]
  unfold mX12_factorb
  rw [h.2.2.2.1, if_neg n10, zgd_t zB0, zcl_s, show zFU = 99999 + 1 from rfl, zlp_1]
  have e5 : ∀ K, mX12_every_5b (mGS 38 0) (mGS 38 1) (mGS 38 2) 231 K 0 w = some (0, w) := fun K => by
    unfold mX12_every_5b mX12_every_53
    rw [h.2.2.2.1, if_neg n10, zgd_t zB0]
  rw [e5, zcl_s, zlp_1]
  show mX12_some_5b (mGS 39 0) (mGS 39 1) (mGS 39 2) 231 _ 0 w = _
  unfold mX12_some_5b mX12_some_53
  rw [h.2.2.2.1, if_neg n10, zgd_t zB0]
/-- what a clause may put -/
def qPut (a k j : Nat) : Prop := j = 1600 + a ∨ j = 1612 + (8 * a + k) ∨ j = 1700 + (8 * a + k) ∨ j = 1790 + (8 * a + k)
def qMb (w0 B : zWd) (a k : Nat) : Prop := (∀ c, c ≠ 232 → B c = w0 c) ∧ ∀ j, ¬ qPut a k j → B 232 j = w0 232 j
theorem qMb.rf (w0 : zWd) (a k : Nat) : qMb w0 w0 a k := ⟨fun _ _ => rfl, fun _ _ => rfl⟩
theorem qMb.up (h : qMb w0 B a k) {j : Nat} (hj : qPut a k j) (v : Int32) : qMb w0 (zup B 232 j v) a k := ⟨fun c hc => by rw [zpE _ _ _ hc]; exact h.1 c hc, fun i hi => by rw [zu2 _ _ (fun q => hi (by rw [q]; exact hj))]; exact h.2 i hi⟩
theorem h_155 (ha : a ≤ 10) (h : qMs B a T o p e w) (hk : B 232 (1600 + a) = nI k) (hk8 : k ≤ 8) : mX12_reads_155 231 (nI a) w = some ((), zup w 232 (1600 + a) (nI (k + if e = 0 then 1 else 0))) := by
  have e232 := h.1.1 232 (by decide)
  unfold mX12_reads_155 mX12_reads_178
  rw [show (1600 : Int32) + nI a = nI (1600 + a) by rw [show (1600 : Int32) = nI 1600 from rfl, nI_add], zgd_t (show zin (nI (1600 + a)) 21948 from vp_in_nI (by omega) (by decide)), h.2.2.2.1]
  simp only [zgd_t (show zin (nI (1600 + a)) 21948 from vp_in_nI (by omega) (by decide)), nI_clamp (show 1600 + a < 2 ^ 31 by omega), Nat.reduceAdd, e232, hk, zbn_e, nI_succ]
  by_cases c : e = 0
  · rw [if_pos c, if_pos c, nI_succ]
  · rw [if_neg c, if_neg c, Int32.add_zero, Nat.add_zero]
/-- what a clause leaves -/
def qHn (w0 : zWd) (a k : Nat) (X : Option (Unit × zWd)) (r : Nat × Option qCl1) : Prop := ∃ w' B, X = some ((), w') ∧ qMb w0 B a k ∧ (match r with
  | (p', none) => qMs B a (-1) 0 p' 1 w'
  | (p', some c) => qMs B a (-1) 0 p' 0 w' ∧ B 232 (1600 + a) = nI (k + 1) ∧ B 232 (1612 + (8 * a + k)) = c.1 ∧ B 232 (1700 + (8 * a + k)) = c.2.1 ∧ (c.1 = 0 → B 232 (1790 + (8 * a + k)) = nI c.2.2.1))
theorem h_125w (ha : a ≤ 10) (hk8 : k ≤ 7) (hb : qMb w0 B a k) (hk : B 232 (1600 + a) = nI k) (h : qMs B a (-1) 0 p 1 w) (y : Int32) : qHn w0 a k (mX12_reads_125 231 (nI a) (nI (8 * a + k)) y w) (p, none) := by
  unfold mX12_reads_125
  by_cases c : y = 0
  · rw [if_pos c]
    obtain ⟨w1, m1, m2⟩ := h_spells1 h 32
    have m3 := m2.s_ (1790 + (8 * a + k)) (nI p)
    obtain ⟨x, w2, m4, m5⟩ := h_some1 m3
    have hk2 : zup B 232 (1790 + (8 * a + k)) (nI p) 232 (1600 + a) = nI k := by rw [zu2 _ _ (by omega)]; exact hk
    rw [m1, zcl_s, show (1790 : Int32) + nI (8 * a + k) = nI (1790 + (8 * a + k)) by rw [show (1790 : Int32) = nI 1790 from rfl, nI_add], zgd_t (show zin (nI (1790 + (8 * a + k))) 21948 from vp_in_nI (by omega) (by decide)), zbn_e, nI_clamp (by omega), m2.2.2.1, show 231 + 1 = 232 from rfl, m4, zcl_s, h_155 ha m5 hk2 (by omega)]
    exact ⟨_, _, rfl, (hb.up (Or.inr (Or.inr (Or.inr rfl))) _).up (Or.inl rfl) _, m5.s_ _ _⟩
  · rw [if_neg c, h_155 ha h hk (by omega)]
    exact ⟨_, _, rfl, hb.up (Or.inl rfl) _, h.s_ _ _⟩
theorem h_125 (ht : qTx B a n) (ha : a ≤ 10) (hk8 : k ≤ 7) (hb : qMb w0 B a k) (hk : B 232 (1600 + a) = nI k) (hp : p ≤ n) (h : qMs B a (-1) 0 p 0 w) {i : Nat} (hi : i < 6) {x : Int32} (hx1 : B 232 (1612 + (8 * a + k)) = nI i) (hx2 : B 232 (1700 + (8 * a + k)) = x) : qHn w0 a k (mX12_reads_125 231 (nI a) (nI (8 * a + k)) (nI i) w) (if i = 0 then (if qB (qFx B a) n p = 32 then (match qE (qFx B a) n (p + 1) with | (p3, some l) => (p3, some (0, x, p + 1, l)) | (p3, none) => (p3, none)) else (p, none)) else (p, some (nI i, x, 0, []))) := by
  have hn := ht.2.1
  unfold mX12_reads_125
  by_cases c0 : i = 0
  · subst c0
    rw [if_pos (show nI 0 = 0 from rfl), if_pos rfl]
    obtain ⟨w1, m1, m2⟩ := h_must w p ht (by omega) 32 0 zB0 h
    have e1790 : (1790 : Int32) + nI (8 * a + k) = nI (1790 + (8 * a + k)) := by rw [show (1790 : Int32) = nI 1790 from rfl, nI_add]
    have z1790 : zin (nI (1790 + (8 * a + k))) 21948 := vp_in_nI (by omega) (by decide)
    by_cases c32 : qB (qFx B a) n p = 32
    · have hpn := qB_in c32 (by decide)
      rw [if_pos ⟨rfl, c32⟩] at m2
      rw [if_pos c32]
      have m3 := m2.s_ (1790 + (8 * a + k)) (nI (p + 1))
      have ht2 := ht.s_ (j := 1790 + (8 * a + k)) (by omega) (nI (p + 1))
      obtain ⟨y, w2, m4, _, m5⟩ := h_E ht2 h_told0 (by omega) m3
      rw [qE_congr (qFx_s ht ha (by omega) (nI (p + 1)))] at m5
      have hk2 : zup B 232 (1790 + (8 * a + k)) (nI (p + 1)) 232 (1600 + a) = nI k := by rw [zu2 _ _ (by omega)]; exact hk
      rw [m1, zcl_s, e1790, zgd_t z1790, zbn_e, nI_clamp (by omega), m2.2.2.1, show 231 + 1 = 232 from rfl, m4, zcl_s]
      match e3 : qE (qFx B a) n (p + 1) with
      | (p3, some l) =>
        rw [e3] at m5
        have m6 := m5.2
        rw [h_155 ha m6 hk2 (by omega), if_pos rfl]
        refine ⟨_, _, rfl, (hb.up (Or.inr (Or.inr (Or.inr rfl))) _).up (Or.inl rfl) _, m6.s_ _ _, by rw [zu3], ?_, ?_, fun _ => ?_⟩
        · rw [zu2 _ _ (by omega), zu2 _ _ (by omega)]; exact hx1
        · rw [zu2 _ _ (by omega), zu2 _ _ (by omega)]; exact hx2
        · rw [zu2 _ _ (by omega), zu3]
      | (p3, none) =>
        rw [e3] at m5
        rw [h_155 ha m5 hk2 (by omega)]
        exact ⟨_, _, rfl, (hb.up (Or.inr (Or.inr (Or.inr rfl))) _).up (Or.inl rfl) _, m5.s_ _ _⟩
    · rw [if_neg (fun q => c32 q.2)] at m2
      rw [if_neg c32]
      have m3 := m2.s_ (1790 + (8 * a + k)) (nI p)
      obtain ⟨y, w2, m4, m5⟩ := h_some1 m3
      have hk2 : zup B 232 (1790 + (8 * a + k)) (nI p) 232 (1600 + a) = nI k := by rw [zu2 _ _ (by omega)]; exact hk
      rw [m1, zcl_s, e1790, zgd_t z1790, zbn_e, nI_clamp (by omega), m2.2.2.1, show 231 + 1 = 232 from rfl, m4, zcl_s, h_155 ha m5 hk2 (by omega)]
      exact ⟨_, _, rfl, (hb.up (Or.inr (Or.inr (Or.inr rfl))) _).up (Or.inl rfl) _, m5.s_ _ _⟩
  · have ci : ¬ nI i = 0 := fun q => c0 (by rw [show (0 : Int32) = nI 0 from rfl, nIe (by omega) (by omega)] at q; exact q)
    rw [if_neg ci, if_neg c0, h_155 ha h hk (by omega), if_pos rfl]
    refine ⟨_, _, rfl, hb.up (Or.inl rfl) _, h.s_ _ _, by rw [zu3], ?_, ?_, fun q => absurd q ci⟩
    · rw [zu2 _ _ (by omega)]; exact hx1
    · rw [zu2 _ _ (by omega)]; exact hx2
end HR
