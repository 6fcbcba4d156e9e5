/-! THE MIX: both sides -/
theorem qxLf_W {W W' : Nat → Int32} (h : ∀ i, i < 4 → W' i = W i) (g : Nat) (x : Int32) (S : Nat → Prop) : qxLf W' g x S = qxLf W g x S := by
  unfold qxLf qTk qS3 qWm
  rw [h 0 (by decide), h 1 (by decide), h 2 (by decide), h 3 (by decide)]
theorem qxSs_W {W W' : Nat → Int32} (h : ∀ i, i < 4 → W' i = W i) (gg nd : Nat → Nat) (c : Nat) : ∀ j, qxSs W' gg nd c j = qxSs W gg nd c j := by
  intro j
  induction j with
  | zero => rfl
  | succ j ih =>
    show qxSt W' (gg j) (nI (gg j) * nI (nd j)) (qxSs W' gg nd c j) = qxSt W (gg j) (nI (gg j) * nI (nd j)) (qxSs W gg nd c j)
    rw [ih]
    unfold qxSt
    rw [qxLf_W h]
theorem qxSs_D {W : Nat → Int32} {gg nd tt : Nat → Nat} {K : Nat} (hg : ∀ j, j < K → gg j ≤ 4) (ht : ∀ i, i < 4 → tt i ≤ 6) : ∀ j, j ≤ K → qxDg tt (qxSs W gg nd (qxCd tt) j) := by
  intro j
  induction j with
  | zero =>
    intro _ e he
    have he2 : e = tt 0 + 7 * tt 1 + 49 * tt 2 + 343 * tt 3 := he
    obtain ⟨g0, g1, g2, g3⟩ := dg7 (d := tt 3) (ht 0 (by decide)) (ht 1 (by decide)) (ht 2 (by decide))
    rw [he2, g0, g1, g2, g3]
    exact ⟨dg_lt (ht 0 (by decide)) (ht 1 (by decide)) (ht 2 (by decide)) (ht 3 (by decide)), Nat.le_refl _, Nat.le_refl _, Nat.le_refl _, Nat.le_refl _⟩
  | succ j ih =>
    intro hj
    exact (ih (by omega)).st W _ _ (hg j (by omega))
def qxC (tt : Nat → Nat) : Nat → Nat
  | 0 => 0
  | i + 1 => qxC tt i + 7 ^ i * tt i
theorem h_mix148 {u : zWd} {K d : Nat} {T gg nd tt : Nat → Nat} {W : Nat → Int32} {bs : Nat → Bool} (hK : K ≤ 8) (e2 : u 232 3 = nI K) (hT : ∀ j, j < K → T j < 8 ∧ u 240 j = nI (T j)) (hg : ∀ j, j < K → gg j ≤ 4 ∧ u 232 (2016 + T j) = nI (gg j)) (hn : ∀ j, j < K → ∀ u2 : zWd, u2 232 = u 232 → mX12_needsOf 231 (nI (T j)) u2 = some (nI (nd j), u2))
    (hf : ∀ i, i < 4 → tt i = 0 ∨ ∀ u2 : zWd, u2 232 = u 232 → mX12_flowOf 231 (nI i) (nI d) 3 u2 = some (W i, u2)) (htt : ∀ i, i < 4 → tt i ≤ 6 ∧ u 244 i = nI (tt i)) (hS : qxRp u (qxSs W gg nd (qxCd tt) 0)) (hbs : ∀ j, j < K → (bs j = true ↔ ∃ v, qxLf W (gg j) (nI (gg j) * nI (nd j)) (qxSs W gg nd (qxCd tt) j) v)) :
    ∃ u', mX12_mixOf_148 231 (nI d) 0 0 u = some (qxBs bs T K, u') ∧ ∀ a, a ≠ 242 → a ≠ 243 → a ≠ 245 → u' a = u a := by
  unfold mX12_mixOf_148
  refine zlp_R (R := fun (Y : Option (Int32 × zWd)) => ∃ u', Y = some (qxBs bs T K, u') ∧ ∀ a, a ≠ 242 → a ≠ 243 → a ≠ 245 → u' a = u a) (P := fun (j : Nat) (q : Int32 × Int32 × zWd) => ∃ u1 : zWd, q = (qxBs bs T j, nI j, u1) ∧ (∀ a, a ≠ 242 → a ≠ 243 → a ≠ 245 → u1 a = u a) ∧ qxRp u1 (qxSs W gg nd (qxCd tt) j)) (n := K) (by unfold zFU; omega) ?_ ⟨u, rfl, fun _ _ _ _ => rfl, hS⟩
  rintro j hj q ⟨u1, rfl, g1, g2⟩ k hk
  simp only [mX12_mixOf_148b]
  have e232 : u1 232 = u 232 := g1 232 (by decide) (by decide) (by decide)
  have e240 : u1 240 = u 240 := g1 240 (by decide) (by decide) (by decide)
  have e244 : u1 244 = u 244 := g1 244 (by decide) (by decide) (by decide)
  rw [zgd_t (show zin (3 : Int32) 21948 by decide), show (3 : Int32).toNatClampNeg = 3 by decide]
  simp only [Nat.reduceAdd, e232, e2]
  by_cases e : j = K
  · subst e
    rw [if_pos (show nI j ≤ nI j by rw [zle]; exact Int.le_refl _)]
    exact ⟨u1, rfl, g1⟩
  have hjK : j < K := by omega
  obtain ⟨T1, T2⟩ := hT j hjK
  obtain ⟨G1, G2⟩ := hg j hjK
  have hz : zin (nI j) 8 := vp_in_nI (by omega) (by decide)
  obtain ⟨b, u2, m1, m2, m3, m4⟩ := h_serves (u := u1) (t := T j) (g := gg j) (nd := nd j) (d := nI d) (tt := tt) (W := W) T1 G1 (by rw [e232]; exact G2) (fun u2 hu2 => hn j hjK u2 (hu2.trans e232)) (fun i hi => (hf i hi).imp id (fun q u2 hu2 => q u2 (hu2.trans e232))) (fun i hi => ⟨(htt i hi).1, by rw [e244]; exact (htt i hi).2⟩) g2 (qxSs_D (fun j hj => (hg j hj).1) (fun i hi => (htt i hi).1) j (by omega))
  have eb : b = bs j := Bool.eq_iff_iff.mpr (m2.trans (hbs j hjK).symm)
  have e240' : u2 240 j = nI (T j) := by rw [m3 240 (by decide) (by decide) (by decide), e240]; exact T2
  rw [if_neg (show ¬ nI K ≤ nI j from nI_ge hjK (by omega)), zgd_t hz]
  simp only [nI_clamp (show j < 2 ^ 31 by omega), e240, T2, m1, zcl_s]
  have fr : ∀ a, a ≠ 242 → a ≠ 243 → a ≠ 245 → u2 a = u a := fun a a1 a2 a3 => (m3 a a1 a2 a3).trans (g1 a a1 a2 a3)
  unfold mX12_mixOf_189
  by_cases c : bs j = true
  · rw [eb, if_pos c, if_neg (show ¬ (1 : Int32) = 0 by decide), zgd_t hz, e240', zbn_e, ← nI_succ]
    refine hk hjK _ ⟨u2, ?_, fr, m4⟩
    rw [show qxBs bs T (j + 1) = qxBs bs T j ||| ((1 : Int32) <<< (nI (T j) &&& 31)) from if_pos c]
  · rw [eb, if_neg c, if_pos rfl, zbn_e, ← nI_succ, Int32.or_zero]
    refine hk hjK _ ⟨u2, ?_, fr, m4⟩
    rw [show qxBs bs T (j + 1) = qxBs bs T j from if_neg c]
theorem h_mix110 {u : zWd} {c : Nat} (d : Int32) (hc : c < 2401) : ∃ u1, mX12_mixOf_110 231 d (nI c) 0 u = mX12_mixOf_148 231 d 0 0 u1 ∧ (∀ a, a ≠ 242 → u1 a = u a) ∧ qxRp u1 (fun e => e = c) := by
  unfold mX12_mixOf_110
  refine zlp_R (R := fun (Y : Option (Int32 × zWd)) => ∃ u1, Y = mX12_mixOf_148 231 d 0 0 u1 ∧ (∀ a, a ≠ 242 → u1 a = u a) ∧ qxRp u1 (fun e => e = c)) (P := fun (i : Nat) (q : Int32 × zWd) => ∃ u1 : zWd, q = (nI i, u1) ∧ (∀ a, a ≠ 242 → u1 a = u a) ∧ ∀ e, e < i → (u1 242 e = 1 ∧ e = c) ∨ (u1 242 e = 0 ∧ ¬ e = c)) (n := 2401) (by unfold zFU; omega) ?_ ⟨u, rfl, fun _ _ => rfl, fun e he => absurd he (Nat.not_lt_zero e)⟩
  rintro i hi q ⟨u1, rfl, g1, g2⟩ k hk
  simp only [mX12_mixOf_110b]
  by_cases e : i = 2401
  · subst e
    rw [if_pos (show (2401 : Int32) ≤ nI 2401 by decide)]
    exact ⟨u1, rfl, g1, g2, fun e he => by omega⟩
  have hz : zin (nI i) 2401 := vp_in_nI (by omega) (by decide)
  rw [if_neg (show ¬ (2401 : Int32) ≤ nI i from nI_ge (b := 2401) (by omega) (by decide))]
  unfold mX12_mixOf_135
  by_cases ec : i = c
  · rw [if_pos (by rw [ec]), zgd_t hz, zbn_e, nI_clamp (show i < 2 ^ 31 by omega), ← nI_succ]
    refine hk (by omega) _ ⟨_, rfl, fun a ha => ?_, fun e he => ?_⟩
    · rw [zpE _ _ _ ha]; exact g1 a ha
    · by_cases ei : e = i
      · show (zup u1 242 i _ 242 e = 1 ∧ _) ∨ _
        rw [ei, zu3]; exact Or.inl ⟨by decide, ec⟩
      · show (zup u1 242 i _ 242 e = 1 ∧ _) ∨ (zup u1 242 i _ 242 e = 0 ∧ _)
        rw [zu2 _ _ ei]; exact g2 e (by omega)
  · rw [if_neg (fun q => ec (by rw [nIe (by omega) (by omega)] at q; exact q)), zgd_t hz, zbn_e, nI_clamp (show i < 2 ^ 31 by omega), ← nI_succ]
    refine hk (by omega) _ ⟨_, rfl, fun a ha => ?_, fun e he => ?_⟩
    · rw [zpE _ _ _ ha]; exact g1 a ha
    · by_cases ei : e = i
      · show _ ∨ (zup u1 242 i _ 242 e = 0 ∧ _)
        rw [ei, zu3]; exact Or.inr ⟨by decide, ec⟩
      · show (zup u1 242 i _ 242 e = 1 ∧ _) ∨ (zup u1 242 i _ 242 e = 0 ∧ _)
        rw [zu2 _ _ ei]; exact g2 e (by omega)
theorem qxBs_b {bs : Nat → Bool} {T : Nat → Nat} : ∀ K, (∀ j, j < K → T j < 8) → ∃ b : Nat, b < 256 ∧ qxBs bs T K = nI b := by
  intro K hT
  have key : ∀ j, j ≤ K → ∀ i, 8 ≤ i → i < 32 → bt (qxBs bs T j) i = false := by
    intro j
    induction j with
    | zero =>
      intro _ i h1 h2
      show bt (nI 0) i = false
      rw [nI_tb (by decide)]
      exact Nat.zero_testBit i
    | succ j ih =>
      intro hj i h1 h2
      have h3 := ih (by omega) i h1 h2
      by_cases c : bs j = true
      · rw [show qxBs bs T (j + 1) = qxBs bs T j ||| ((1 : Int32) <<< (nI (T j) &&& 31)) from if_pos c]
        have hj8 := hT j (by omega)
        have h4 := qBit_or (qxBs bs T j) (t := T j) (u := i) (by omega) h2
        rw [if_neg (by omega), qBit_bt _ h2, qBit_bt _ h2, h3] at h4
        by_cases c2 : bt (qxBs bs T j ||| ((1 : Int32) <<< (nI (T j) &&& 31))) i = true
        · rw [c2] at h4; exact absurd h4 (by decide)
        · exact Bool.eq_false_iff.mpr c2
      · rw [show qxBs bs T (j + 1) = qxBs bs T j from if_neg c]; exact h3
  have h1 := (bt_rng (qxBs bs T K) 8 (by decide)).mp (key K (Nat.le_refl K))
  obtain ⟨b, b1, b2, b3, _⟩ := qNat (x := qxBs bs T K) (lo := 0) (hi := 255) ⟨h1.1, by omega⟩ (Int.le_refl 0)
  exact ⟨b, by omega, b1⟩
theorem q_served {n : Nat} {w : zWd} (h : qInv n w) (hn : n < 100000) {d D K : Nat} (hd : d < D) (hD : D ≤ 400) (d1 : w 1 0 = nI D) (d2 : w 232 0 = nI D) (hK : K ≤ 8) (e1 : w 82 0 = nI K) (e2 : w 232 3 = nI K) {T : Nat → Nat} (hT : ∀ j, j < K → T j < K) : ∃ B : Int32, (∃ b : Nat, b < 256 ∧ B = nI b) ∧
    (∀ u : zWd, qxUc w u → u 220 = w 220 → u 225 = w 225 → u 217 0 = nI K → (∀ j, j < K → u 219 j = nI (T j)) → ∃ u', mX11_servedOf 0 (nI d) u = some (B, u') ∧ (∀ a, a < 220 ∨ 225 < a → u' a = u a) ∧ ∃ r', r' ≤ 8 * (n + 1) ∧ qxMr u' r')
    ∧ ∀ u : zWd, qxM (w 232) (u 232) → (∀ j, j < K → u 240 j = nI (T j)) → ∃ u', mX12_mixOf_13 231 (nI d) 0 1 0 u = some (B, u') ∧ ∀ a, a < 242 ∨ 245 < a → u' a = u a := by
  have hx : ∀ i : Nat, ∃ p : Nat × Int32, i < 4 → p.1 ≤ 6
    ∧ (∀ u : zWd, qxUc w u → ∀ k2, mX11_servedOf_2b 0 (nI d) k2 (nI i) u = k2 (nI (i + 1), zup (zup u 221 i (nI p.1)) 222 i p.2))
    ∧ (p.1 = 0 ∨ ∀ u : zWd, qxM (w 232) (u 232) → mX12_flowOf 231 (nI i) (nI d) 3 u = some (p.2, u))
    ∧ ∀ u : zWd, qxM (w 232) (u 232) → ∀ v3 v4 k13, mX12_mixOf_13b 231 (nI d) k13 v3 v4 (nI i) u = k13 (v3 + v4 * nI p.1, v4 * 7, nI (i + 1), zup u 244 i (nI p.1)) := by
    intro i
    by_cases hi : i < 4
    · obtain ⟨t, W, q⟩ := q_offer h hd hD d1 d2 hi
      exact ⟨(t, W), fun _ => q⟩
    · exact ⟨(0, 0), fun q => absurd q hi⟩
  obtain ⟨f, hf⟩ := Classical.axiomOfChoice hx
  have hy : ∀ j : Nat, ∃ p : Nat × Nat, j < K → p.1 ≤ 4 ∧ w 85 (T j) = nI p.1 ∧ w 232 (2016 + T j) = nI p.1 ∧ (∀ u2 : zWd, (∀ a, 82 ≤ a → a ≤ 93 → u2 a = w a) → mX8_needs 82 (nI (T j)) u2 = some (nI p.2, u2)) ∧ ∀ u2 : zWd, qxM (w 232) (u2 232) → mX12_needsOf 231 (nI (T j)) u2 = some (nI p.2, u2) := by
    intro j
    by_cases hj : j < K
    · obtain ⟨k, G, H, hk5, _, hG4, hH5, k1, k2, g1, g2, h1, h2⟩ := q_tk h hK e2 (hT j hj)
      have := hT j hj
      refine ⟨(G, qNd k H), fun _ => ⟨hG4, g1, g2, fun u2 hu2 => ?_, fun u2 hu2 => ?_⟩⟩
      · exact s_needs (by omega) hk5 (by rw [hu2 83 (by decide) (by decide)]; exact k1) hH5 (by rw [hu2 86 (by decide) (by decide)]; exact h1)
      · exact s_needs12 (by omega) hk5 (by rw [hu2 _ (by omega) (by omega) (by omega)]; exact k2) hH5 (by rw [hu2 _ (by omega) (by omega) (by omega)]; exact h2)
    · exact ⟨(0, 0), fun q => absurd q hj⟩
  obtain ⟨e, he⟩ := Classical.axiomOfChoice hy
  obtain ⟨bs, hbs⟩ : ∃ bs : Nat → Bool, ∀ j, (bs j = true ↔ ∃ v, qxLf (fun i => (f i).2) (e j).1 (nI (e j).1 * nI (e j).2) (qxSs (fun i => (f i).2) (fun j => (e j).1) (fun j => (e j).2) (qxCd (fun i => (f i).1)) j) v) := ⟨fun j => @decide _ (Classical.propDecidable _), fun j => @decide_eq_true_iff _ (Classical.propDecidable _)⟩
  refine ⟨qxBs bs T K, qxBs_b K (fun j hj => by have := hT j hj; omega), fun u hu u220 u225 u217 u219 => ?_, fun u hu u240 => ?_⟩
  · unfold mX11_servedOf mX11_servedOf_2
    refine zlp_R (R := fun (Y : Option (Int32 × zWd)) => ∃ u', Y = some (qxBs bs T K, u') ∧ (∀ a, a < 220 ∨ 225 < a → u' a = u a) ∧ ∃ r', r' ≤ 8 * (n + 1) ∧ qxMr u' r') (P := fun (i : Nat) (q : Int32 × zWd) => ∃ u1 : zWd, q = (nI i, u1) ∧ (∀ a, a ≠ 221 → a ≠ 222 → u1 a = u a) ∧ ∀ j, j < i → u1 221 j = nI (f j).1 ∧ u1 222 j = (f j).2) (n := 4) (by unfold zFU; omega) ?_ ⟨u, rfl, fun _ _ _ => rfl, fun j hj => absurd hj (Nat.not_lt_zero j)⟩
    rintro i hi q ⟨u1, rfl, g1, g2⟩ k hk
    by_cases ei : i = 4
    rotate_left
    · have hi4 : i < 4 := by omega
      have hu1 : qxUc w u1 := ⟨by rw [g1 1 (by decide) (by decide)]; exact hu.1, by rw [g1 2 (by decide) (by decide)]; exact hu.2.1, by rw [g1 7 (by decide) (by decide)]; exact hu.2.2.1, by rw [g1 205 (by decide) (by decide)]; exact hu.2.2.2.1, fun a a1 a2 => by rw [g1 a (by omega) (by omega)]; exact hu.2.2.2.2 a a1 a2⟩
      show ∃ u', mX11_servedOf_2b 0 (nI d) k (nI i) u1 = _ ∧ _
      rw [(hf i hi4).2.1 u1 hu1 k]
      refine hk hi4 _ ⟨_, rfl, fun a a1 a2 => ?_, fun j hj => ?_⟩
      · rw [zpE _ _ _ a2, zpE _ _ _ a1]; exact g1 a a1 a2
      · by_cases ej : j = i
        · rw [ej, zu3, zpE _ _ _ (by decide), zu3]; exact ⟨rfl, rfl⟩
        · rw [zu2 _ _ ej, zpE _ _ _ (by decide), zu2 _ _ ej, zpE _ _ _ (by decide)]; exact g2 j (by omega)
    subst ei
    obtain ⟨m1, r, m2, m3, m4⟩ := h.2.2.2.2
    have hr : qxMr u1 r := by
      unfold qxMr
      rw [g1 220 (by decide) (by decide), g1 225 (by decide) (by decide), u220, u225]
      exact ⟨m1, m2, m4⟩
    have hW : ∀ i, i < 4 → u1 222 i = (fun i => (f i).2) i := fun i hi => (g2 i hi).2
    obtain ⟨u2, q1, q2, r', q3, q4⟩ := c_serve (u := u1) (r := r) (K := K) (T := T) (gg := fun j => (e j).1) (nd := fun j => (e j).2) (tt := fun i => (f i).1) (bs := bs) hr (by omega) hK (by rw [g1 217 (by decide) (by decide)]; exact u217) (fun j hj => ⟨by have := hT j hj; omega, by rw [g1 219 (by decide) (by decide)]; exact u219 j hj⟩) (fun j hj => ⟨(he j hj).1, by rw [g1 85 (by decide) (by decide), hu.2.2.2.2 85 (by decide) (by decide)]; exact (he j hj).2.1⟩) (fun j hj u3 hu3 => (he j hj).2.2.2.1 u3 (fun a a1 a2 => by rw [hu3 a a1 a2, g1 a (by omega) (by omega)]; exact hu.2.2.2.2 a a1 a2)) (fun i hi => ⟨(hf i hi).1, (g2 i hi).1⟩) (fun j hj => by rw [hbs j, qxSs_W hW, qxLf_W hW])
    show ∃ u', (if (4 : Int32) ≤ nI 4 then zcl (mX1_serve 220 217 82 u1) _ else _) = _ ∧ _
    rw [if_pos (show (4 : Int32) ≤ nI 4 by decide), q1, zcl_s]
    refine ⟨u2, rfl, fun a ha => ?_, r', by omega, q4⟩
    rw [q2 a (by omega) (by omega) (by omega) (by omega)]
    exact g1 a (by omega) (by omega)
  · unfold mX12_mixOf_13
    refine zlp_R (R := fun (Y : Option (Int32 × zWd)) => ∃ u', Y = some (qxBs bs T K, u') ∧ ∀ a, a < 242 ∨ 245 < a → u' a = u a) (P := fun (i : Nat) (q : Int32 × Int32 × Int32 × zWd) => ∃ u1 : zWd, q = (nI (qxC (fun i => (f i).1) i), nI (7 ^ i), nI i, u1) ∧ (∀ a, a ≠ 244 → u1 a = u a) ∧ ∀ j, j < i → u1 244 j = nI (f j).1) (n := 4) (by unfold zFU; omega) ?_ ⟨u, rfl, fun _ _ => rfl, fun j hj => absurd hj (Nat.not_lt_zero j)⟩
    rintro i hi q ⟨u1, rfl, g1, g2⟩ k hk
    have hu1 : qxM (w 232) (u1 232) := by rw [g1 232 (by decide)]; exact hu
    by_cases ei : i = 4
    rotate_left
    · have hi4 : i < 4 := by omega
      show ∃ u', mX12_mixOf_13b 231 (nI d) k (nI (qxC (fun i => (f i).1) i)) (nI (7 ^ i)) (nI i) u1 = _ ∧ _
      rw [(hf i hi4).2.2.2 u1 hu1, pk_mul, nI_add, show (7 : Int32) = nI 7 from rfl, pk_mul]
      refine hk hi4 _ ⟨_, rfl, fun a a1 => ?_, fun j hj => ?_⟩
      · rw [zpE _ _ _ a1]; exact g1 a a1
      · by_cases ej : j = i
        · rw [ej, zu3]
        · rw [zu2 _ _ ej]; exact g2 j (by omega)
    subst ei
    have hc4 : qxC (fun i => (f i).1) 4 = qxCd (fun i => (f i).1) := by
      show 0 + 7 ^ 0 * (f 0).1 + 7 ^ 1 * (f 1).1 + 7 ^ 2 * (f 2).1 + 7 ^ 3 * (f 3).1 = (f 0).1 + 7 * (f 1).1 + 49 * (f 2).1 + 343 * (f 3).1
      omega
    have hlt : qxCd (fun i => (f i).1) < 2401 := by
      have a0 := (hf 0 (by decide)).1
      have a1 := (hf 1 (by decide)).1
      have a2 := (hf 2 (by decide)).1
      have a3 := (hf 3 (by decide)).1
      show (f 0).1 + 7 * (f 1).1 + 49 * (f 2).1 + 343 * (f 3).1 < 2401
      omega
    show ∃ u', mX12_mixOf_13b 231 (nI d) k (nI (qxC (fun i => (f i).1) 4)) (nI (7 ^ 4)) (nI 4) u1 = _ ∧ _
    unfold mX12_mixOf_13b
    rw [if_pos (show (4 : Int32) ≤ nI 4 by decide), hc4]
    obtain ⟨u2, j1, j2, j3⟩ := h_mix110 (u := u1) (nI d) hlt
    rw [j1]
    have fr : ∀ a, a ≠ 242 → a ≠ 244 → u2 a = u a := fun a a1 a2 => (j2 a a1).trans (g1 a a2)
    have hu2 : qxM (w 232) (u2 232) := by rw [fr 232 (by decide) (by decide)]; exact hu
    obtain ⟨u3, x1, x2⟩ := h_mix148 (u := u2) (K := K) (d := d) (T := T) (gg := fun j => (e j).1) (nd := fun j => (e j).2) (tt := fun i => (f i).1) (W := fun i => (f i).2) (bs := bs) hK (by rw [hu2 3 (by decide) (by decide) (by decide)]; exact e2) (fun j hj => ⟨by have := hT j hj; omega, by rw [fr 240 (by decide) (by decide)]; exact u240 j hj⟩) (fun j hj => ⟨(he j hj).1, by have := hT j hj; rw [hu2 _ (by omega) (by omega) (by omega)]; exact (he j hj).2.2.1⟩) (fun j hj u4 hu4 => (he j hj).2.2.2.2 u4 (by rw [hu4]; exact hu2)) (fun i hi => (hf i hi).2.2.1.imp id (fun q u4 hu4 => q u4 (by rw [hu4]; exact hu2))) (fun i hi => ⟨(hf i hi).1, by rw [j2 244 (by decide)]; exact g2 i hi⟩) j3 (fun j _ => hbs j)
    rw [x1]
    exact ⟨u3, rfl, fun a ha => by rw [x2 a (by omega) (by omega) (by omega)]; exact fr a (by omega) (by omega)⟩
