/-! THE MIX, the model's: one way to take -/
theorem h_by1 {u : zWd} {c s i : Nat} (k42 : Int32 × Int32 × zWd → Option (Int32 × zWd)) (k60 : Int32 × Int32 × Int32 × zWd → Option (Int32 × zWd)) (t d v3 v4 v5 : Int32) (hc : c < 625) (hi : i < 4) : mX12_serves_60b k42 231 t d v3 v4 v5 k60 (nI s) (nI c) (nI i) u = k60 (nI (s + c % 5), nI (c / 5), nI (i + 1), zup u 245 i (nI (c % 5))) := by
  unfold mX12_serves_60b
  rw [if_neg (show ¬ (4 : Int32) ≤ nI i from fun q => by rw [zle, T4, nIi (by omega)] at q; omega), zgd_t (show zin (nI i) 4 from vp_in_nI hi (by decide)), show (5 : Int32) = nI 5 from rfl, nI_rem (by omega) (by decide) (by decide), zbn_e, zgd_t (show zin (nI i) 4 from vp_in_nI hi (by decide)), nI_clamp (show i < 2 ^ 31 by omega)]
  show zbn (nI s + zup u 245 i (nI (c % 5)) 245 i) _ = _
  rw [zu3, zbn_e, zbn_e, nI_add s (c % 5), pk_div (by omega) (by decide) (by decide), ← nI_succ]
theorem h_by {u : zWd} {k g : Nat} (k42 : Int32 × Int32 × zWd → Option (Int32 × zWd)) (t d v3 v5 : Int32) (hk : k < 625) (hg : g ≤ 4) : ∃ (fl : Int32) (u' : zWd), mX12_serves_60 k42 231 t d v3 (nI g) v5 0 (nI k) 0 u = mX12_serves_118 k42 231 t d v3 (nI g) v5 fl 0 u' ∧ ((fl = 1 ∧ qxY k 0 + qxY k 1 + qxY k 2 + qxY k 3 = g) ∨ (fl = 0 ∧ ¬ qxY k 0 + qxY k 1 + qxY k 2 + qxY k 3 = g)) ∧ (∀ a, a ≠ 245 → u' a = u a) ∧ ∀ i, i < 4 → u' 245 i = nI (qxY k i) := by
  have key : ∀ N, ∃ (fl : Int32) (u' : zWd), zlp (fun k60 (q : Int32 × Int32 × Int32 × zWd) => mX12_serves_60b k42 231 t d v3 (nI g) v5 k60 q.1 q.2.1 q.2.2.1 q.2.2.2) (N + 1 + 1 + 1 + 1 + 1) (nI 0, nI k, nI 0, u) = mX12_serves_118 k42 231 t d v3 (nI g) v5 fl 0 u' ∧ ((fl = 1 ∧ qxY k 0 + qxY k 1 + qxY k 2 + qxY k 3 = g) ∨ (fl = 0 ∧ ¬ qxY k 0 + qxY k 1 + qxY k 2 + qxY k 3 = g)) ∧ (∀ a, a ≠ 245 → u' a = u a) ∧ ∀ i, i < 4 → u' 245 i = nI (qxY k i) := by
    intro N
    rw [zlp_1, h_by1 _ _ _ _ _ _ _ hk (by decide), zlp_1, h_by1 _ _ _ _ _ _ _ (show k / 5 < 625 by omega) (by decide), zlp_1, h_by1 _ _ _ _ _ _ _ (show k / 5 / 5 < 625 by omega) (by decide), zlp_1, h_by1 _ _ _ _ _ _ _ (show k / 5 / 5 / 5 < 625 by omega) (by decide), zlp_1]
    have y0 : qxY k 0 = k % 5 := rfl
    have y1 : qxY k 1 = k / 5 % 5 := rfl
    have y2 : qxY k 2 = k / 5 / 5 % 5 := by show k / 25 % 5 = _; omega
    have y3 : qxY k 3 = k / 5 / 5 / 5 % 5 := by show k / 125 % 5 = _; omega
    refine ⟨if qxY k 0 + qxY k 1 + qxY k 2 + qxY k 3 = g then 1 else 0, zup (zup (zup (zup u 245 0 (nI (k % 5))) 245 1 (nI (k / 5 % 5))) 245 2 (nI (k / 5 / 5 % 5))) 245 3 (nI (k / 5 / 5 / 5 % 5)), ?_, ?_, fun a ha => ?_, fun i hi => ?_⟩
    · show mX12_serves_60b k42 231 t d v3 (nI g) v5 _ (nI (0 + k % 5 + k / 5 % 5 + k / 5 / 5 % 5 + k / 5 / 5 / 5 % 5)) (nI (k / 5 / 5 / 5 / 5)) (nI 4) _ = _
      unfold mX12_serves_60b mX12_serves_113
      rw [if_pos (show (4 : Int32) ≤ nI 4 by decide), Nat.zero_add, ← y0, ← y1, ← y2, ← y3]
      by_cases c : qxY k 0 + qxY k 1 + qxY k 2 + qxY k 3 = g
      · rw [if_pos c, if_pos (by rw [c])]
      · rw [if_neg c, if_neg (fun q => c (by rw [nIe (by omega) (by omega)] at q; exact q))]
    · by_cases c : qxY k 0 + qxY k 1 + qxY k 2 + qxY k 3 = g
      · rw [if_pos c]; exact Or.inl ⟨rfl, c⟩
      · rw [if_neg c]; exact Or.inr ⟨rfl, c⟩
    · rw [zpE _ _ _ ha, zpE _ _ _ ha, zpE _ _ _ ha, zpE _ _ _ ha]
    · rcases (show i = 0 ∨ i = 1 ∨ i = 2 ∨ i = 3 by omega) with rfl | rfl | rfl | rfl
      · rw [zu2 _ _ (by decide), zu2 _ _ (by decide), zu2 _ _ (by decide), zu3, y0]
      · rw [zu2 _ _ (by decide), zu2 _ _ (by decide), zu3, y1]
      · rw [zu2 _ _ (by decide), zu3, y2]
      · rw [zu3, y3]
  exact key 99995
theorem h_flag {u : zWd} {y tt : Nat → Nat} (k42 : Int32 × Int32 × zWd → Option (Int32 × zWd)) (t d v3 g v5 : Int32) (hy : ∀ i, i < 4 → y i ≤ 4 ∧ u 245 i = nI (y i)) (ht : ∀ i, i < 4 → tt i ≤ 6 ∧ u 244 i = nI (tt i)) {fl : Int32} {c : Prop} (hfl : (fl = 1 ∧ c) ∨ (fl = 0 ∧ ¬ c)) :
    ((c ∧ ∀ i, i < 4 → y i ≤ tt i) ∧ mX12_serves_118 k42 231 t d v3 g v5 fl 0 u = zcl (mX12_isWarm 231 t d u) (fun r3 w4 => if r3 = 0 then (mX12_serves_228 k42 231 t d v3 g v5 w4) else (mX12_serves_176 k42 231 t d g v5 v3 (0 : Int32) w4))) ∨ (¬ (c ∧ ∀ i, i < 4 → y i ≤ tt i) ∧ mX12_serves_118 k42 231 t d v3 g v5 fl 0 u = k42 (v3, v5 + 1, u)) := by
  unfold mX12_serves_118
  refine zlp_R (R := fun (Y : Option (Int32 × zWd)) => ((c ∧ ∀ i, i < 4 → y i ≤ tt i) ∧ Y = zcl (mX12_isWarm 231 t d u) (fun r3 w4 => if r3 = 0 then (mX12_serves_228 k42 231 t d v3 g v5 w4) else (mX12_serves_176 k42 231 t d g v5 v3 (0 : Int32) w4))) ∨ (¬ (c ∧ ∀ i, i < 4 → y i ≤ tt i) ∧ Y = k42 (v3, v5 + 1, u)))
    (P := fun (i : Nat) (q : Int32 × Int32 × zWd) => ∃ f : Int32, q = (f, nI i, u) ∧ ((f = 1 ∧ c ∧ ∀ j, j < i → y j ≤ tt j) ∨ (f = 0 ∧ ¬ (c ∧ ∀ j, j < i → y j ≤ tt j)))) (n := 4) (by unfold zFU; omega) ?_ ⟨fl, rfl, hfl.elim (fun q => Or.inl ⟨q.1, q.2, fun j hj => absurd hj (Nat.not_lt_zero j)⟩) (fun q => Or.inr ⟨q.1, fun p => q.2 p.1⟩)⟩
  rintro i hi q ⟨f, rfl, hf⟩ k hk
  simp only [mX12_serves_118b]
  by_cases e : i = 4
  · subst e
    rw [if_pos (show (4 : Int32) ≤ nI 4 by decide)]
    rcases hf with ⟨rfl, h1⟩ | ⟨rfl, h1⟩
    · rw [if_neg (show ¬ (1 : Int32) = 0 by decide)]
      exact Or.inl ⟨h1, rfl⟩
    · rw [if_pos rfl]
      exact Or.inr ⟨h1, rfl⟩
  have hi4 : i < 4 := by omega
  obtain ⟨a1, a2⟩ := hy i hi4
  obtain ⟨b1, b2⟩ := ht i hi4
  rw [if_neg (show ¬ (4 : Int32) ≤ nI i from fun q => by rw [zle, T4, nIi (by omega)] at q; omega)]
  rcases hf with ⟨rfl, h1⟩ | ⟨rfl, h1⟩
  rotate_left
  · rw [if_pos rfl]
    unfold mX12_serves_150 mX12_serves_151
    rw [← nI_succ]
    exact hk hi4 _ ⟨0, rfl, Or.inr ⟨rfl, fun q => h1 ⟨q.1, fun j hj => q.2 j (by omega)⟩⟩⟩
  rw [if_neg (show ¬ (1 : Int32) = 0 by decide), zgd_t (show zin (nI i) 4 from vp_in_nI hi4 (by decide)), zgd_t (show zin (nI i) 4 from vp_in_nI hi4 (by decide)), nI_clamp (show i < 2 ^ 31 by omega)]
  simp only [Nat.reduceAdd, a2, b2]
  unfold mX12_serves_150 mX12_serves_151
  rw [← nI_succ]
  by_cases c2 : y i ≤ tt i
  · rw [if_neg (show ¬ nI (tt i) < nI (y i) from fun q => by rw [zlt, nIi (by omega), nIi (by omega)] at q; omega)]
    refine hk hi4 _ ⟨1, rfl, Or.inl ⟨rfl, h1.1, fun j hj => ?_⟩⟩
    by_cases ej : j = i
    · rw [ej]; exact c2
    · exact h1.2 j (by omega)
  · rw [if_pos (show nI (tt i) < nI (y i) from nI_lt (by omega) (by omega))]
    exact hk hi4 _ ⟨0, rfl, Or.inr ⟨rfl, fun q => c2 (q.2 i (by omega))⟩⟩
/-- the heat of what is taken, tap by tap -/
def qxP (W : Nat → Int32) (y : Nat → Nat) : Nat → Int32
  | 0 => 0
  | i + 1 => qxP W y i + nI (y i) * W i
theorem h_warm {u : zWd} {y : Nat → Nat} {W : Nat → Int32} {g nd t : Nat} {d : Int32} (hy : ∀ i, i < 4 → y i ≤ 4 ∧ u 245 i = nI (y i)) (hf : ∀ i, i < 4 → y i = 0 ∨ mX12_flowOf 231 (nI i) d 3 u = some (W i, u)) (ht : t < 8) (hg : u 232 (2016 + t) = nI g) (hn : mX12_needsOf 231 (nI t) u = some (nI nd, u)) :
    ∃ r, mX12_isWarm 231 (nI t) d u = some (r, u) ∧ ((r = 1 ∧ qWm W (y 0) (y 1) (y 2) (y 3) (nI g * nI nd)) ∨ (r = 0 ∧ ¬ qWm W (y 0) (y 1) (y 2) (y 3) (nI g * nI nd))) := by
  have hP : qxP W y 4 = nI (y 0) * W 0 + nI (y 1) * W 1 + nI (y 2) * W 2 + nI (y 3) * W 3 := by
    show 0 + nI (y 0) * W 0 + nI (y 1) * W 1 + nI (y 2) * W 2 + nI (y 3) * W 3 = _
    rw [Int32.zero_add]
  unfold mX12_isWarm mX12_isWarm_5
  refine zlp_R (R := fun (Y : Option (Int32 × zWd)) => ∃ r, Y = some (r, u) ∧ ((r = 1 ∧ qWm W (y 0) (y 1) (y 2) (y 3) (nI g * nI nd)) ∨ (r = 0 ∧ ¬ qWm W (y 0) (y 1) (y 2) (y 3) (nI g * nI nd)))) (P := fun (i : Nat) (q : Int32 × Int32 × zWd) => q = (qxP W y i, nI i, u)) (n := 4) (by unfold zFU; omega) ?_ rfl
  rintro i hi q rfl k hk
  simp only [mX12_isWarm_5b]
  by_cases e : i = 4
  · subst e
    have e16 : (2016 : Int32) + nI t = nI (2016 + t) := nI_add 2016 t
    rw [if_pos (show (4 : Int32) ≤ nI 4 by decide), e16, zgd_t (show zin (nI (2016 + t)) 21948 from vp_in_nI (by omega) (by decide)), hn, zcl_s, nI_clamp (show 2016 + t < 2 ^ 31 by omega)]
    simp only [Nat.reduceAdd, hg, hP]
    unfold mX12_isWarm_75 qWm
    by_cases c : nI (y 0) * W 0 + nI (y 1) * W 1 + nI (y 2) * W 2 + nI (y 3) * W 3 < nI g * nI nd
    · rw [if_pos c, zgd_t zB0]
      exact ⟨0, rfl, Or.inr ⟨rfl, fun q => q c⟩⟩
    · rw [if_neg c, zgd_t zB1]
      exact ⟨1, rfl, Or.inl ⟨rfl, c⟩⟩
  have hi4 : i < 4 := by omega
  obtain ⟨a1, a2⟩ := hy i hi4
  rw [if_neg (show ¬ (4 : Int32) ≤ nI i from fun q => by rw [zle, T4, nIi (by omega)] at q; omega), zgd_t (show zin (nI i) 4 from vp_in_nI hi4 (by decide))]
  simp only [nI_clamp (show i < 2 ^ 31 by omega), Nat.reduceAdd, a2]
  by_cases c : y i = 0
  · rw [if_pos (show nI (y i) ≤ 0 by rw [c]; decide)]
    unfold mX12_isWarm_42
    rw [zbn_e, ← nI_succ]
    refine hk hi4 _ ?_
    show _ = (qxP W y i + nI (y i) * W i, _, _)
    rw [c, show (nI 0 : Int32) = 0 from rfl, Int32.zero_mul]
  · rw [if_neg (show ¬ nI (y i) ≤ 0 from fun q => by rw [zle, nIi (by omega), T0] at q; omega), zgd_t (show zin (nI i) 4 from vp_in_nI hi4 (by decide)), (hf i hi4).resolve_left c, zcl_s]
    unfold mX12_isWarm_42
    rw [zbn_e, ← nI_succ]
    exact hk hi4 _ rfl
