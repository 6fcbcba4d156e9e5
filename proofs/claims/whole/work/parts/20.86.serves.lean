/-! THE MIX, the model's: one taker more -/
def qxDg (tt : Nat → Nat) (S : Nat → Prop) : Prop := ∀ e, S e → e < 2401 ∧ e % 7 ≤ tt 0 ∧ e / 7 % 7 ≤ tt 1 ∧ e / 49 % 7 ≤ tt 2 ∧ e / 343 ≤ tt 3
def qxOk (tt : Nat → Nat) (W : Nat → Int32) (g : Nat) (x : Int32) (k : Nat) : Prop := (qxY k 0 + qxY k 1 + qxY k 2 + qxY k 3 = g ∧ ∀ i, i < 4 → qxY k i ≤ tt i) ∧ qWm W (qxY k 0) (qxY k 1) (qxY k 2) (qxY k 3) x
theorem qxY_le (k i : Nat) : qxY k i ≤ 4 := by
  match i with
  | 0 => show k % 5 ≤ 4; omega
  | 1 => show k / 5 % 5 ≤ 4; omega
  | 2 => show k / 25 % 5 ≤ 4; omega
  | _ + 3 => show k / 125 % 5 ≤ 4; omega
theorem qxY_dg {a b c d : Nat} (ha : a ≤ 4) (hb : b ≤ 4) (hc : c ≤ 4) (hd : d ≤ 4) : qxY (a + 5 * b + 25 * c + 125 * d) 0 = a ∧ qxY (a + 5 * b + 25 * c + 125 * d) 1 = b ∧ qxY (a + 5 * b + 25 * c + 125 * d) 2 = c ∧ qxY (a + 5 * b + 25 * c + 125 * d) 3 = d := by
  have e1 : (a + 5 * b + 25 * c + 125 * d) / 5 = b + 5 * c + 25 * d := by omega
  have e2 : (a + 5 * b + 25 * c + 125 * d) / 25 = c + 5 * d := by omega
  have e3 : (a + 5 * b + 25 * c + 125 * d) / 125 = d := by omega
  refine ⟨?_, ?_, ?_, ?_⟩
  · show (a + 5 * b + 25 * c + 125 * d) % 5 = a; omega
  · show (a + 5 * b + 25 * c + 125 * d) / 5 % 5 = b; rw [e1]; omega
  · show (a + 5 * b + 25 * c + 125 * d) / 25 % 5 = c; rw [e2]; omega
  · show (a + 5 * b + 25 * c + 125 * d) / 125 % 5 = d; rw [e3]; omega
theorem dg7 {a b c d : Nat} (ha : a ≤ 6) (hb : b ≤ 6) (hc : c ≤ 6) : (a + 7 * b + 49 * c + 343 * d) % 7 = a ∧ (a + 7 * b + 49 * c + 343 * d) / 7 % 7 = b ∧ (a + 7 * b + 49 * c + 343 * d) / 49 % 7 = c ∧ (a + 7 * b + 49 * c + 343 * d) / 343 = d := by
  have e1 : (a + 7 * b + 49 * c + 343 * d) / 7 = b + 7 * c + 49 * d := by omega
  have e2 : (a + 7 * b + 49 * c + 343 * d) / 49 = c + 7 * d := by omega
  have e3 : (a + 7 * b + 49 * c + 343 * d) / 343 = d := by omega
  refine ⟨by omega, by rw [e1]; omega, by rw [e2]; omega, e3⟩
theorem dg_of (e : Nat) : e = e % 7 + 7 * (e / 7 % 7) + 49 * (e / 49 % 7) + 343 * (e / 343) := by
  have h1 : e / 49 = e / 7 / 7 := by omega
  have h2 : e / 343 = e / 7 / 7 / 7 := by omega
  rw [h1, h2]
  omega
theorem dg_4 {g a b c d : Nat} (h : a + b + c + d = g) : g - a - b - c = d := by omega
theorem dg_g {g a b c : Nat} (h1 : a ≤ g) (h2 : b ≤ g - a) (h3 : c ≤ g - a - b) : a + b + c + (g - a - b - c) = g := by omega
theorem dg_x (a b c d : Nat) : ((d * 7 + c) * 7 + b) * 7 + a = a + 7 * b + 49 * c + 343 * d := by omega
theorem qxLf_iff {W : Nat → Int32} {tt : Nat → Nat} {S : Nat → Prop} {g : Nat} {x : Int32} (hg : g ≤ 4) (hS : qxDg tt S) (v : Nat) : qxLf W g x S v ↔ ∃ k, k < 625 ∧ qxOk tt W g x k ∧ ∃ e, S e ∧ qxFt e (qxY k) ∧ v = e - qxCd (qxY k) := by
  constructor
  · rintro ⟨e, he, a, _, ha, b, _, hb, c, _, hc, hd, hw, hv⟩
    obtain ⟨_, z1, z2, z3, z4⟩ := hS e he
    obtain ⟨a1, a2⟩ := Nat.le_min.mp ha
    obtain ⟨b1, b2⟩ := Nat.le_min.mp hb
    obtain ⟨c1, c2⟩ := Nat.le_min.mp hc
    have hs := dg_g a1 b1 c1
    rw [dg_x] at hv
    generalize g - a - b - c = d at hd hw hv hs
    clear ha hb hc b1 c1 a1
    have k4 : a ≤ 4 ∧ b ≤ 4 ∧ c ≤ 4 ∧ d ≤ 4 := by clear z1 z2 z3 z4 a2 b2 c2 hd hv; omega
    obtain ⟨h0, h1, h2, h3⟩ := qxY_dg k4.1 k4.2.1 k4.2.2.1 k4.2.2.2
    refine ⟨a + 5 * b + 25 * c + 125 * d, by clear z1 z2 z3 z4 a2 b2 c2 hd hv h0 h1 h2 h3; omega, ?_⟩
    unfold qxOk qxFt qxCd
    rw [h0, h1, h2, h3]
    refine ⟨⟨⟨hs, fun i hi => ?_⟩, hw⟩, e, he, ⟨a2, b2, c2, hd⟩, hv⟩
    rcases (show i = 0 ∨ i = 1 ∨ i = 2 ∨ i = 3 by clear z1 z2 z3 z4 a2 b2 c2 hd hv h0 h1 h2 h3 k4; omega) with rfl | rfl | rfl | rfl
    · rw [h0]; exact Nat.le_trans a2 z1
    · rw [h1]; exact Nat.le_trans b2 z2
    · rw [h2]; exact Nat.le_trans c2 z3
    · rw [h3]; exact Nat.le_trans hd z4
  · rintro ⟨k, hk, ⟨⟨hs, hl⟩, hw⟩, e, he, ⟨f0, f1, f2, f3⟩, hv⟩
    unfold qxCd at hv
    generalize qxY k 0 = y0 at *
    generalize qxY k 1 = y1 at *
    generalize qxY k 2 = y2 at *
    generalize qxY k 3 = y3 at *
    have h3 := dg_4 hs
    have l1 : y0 ≤ g := by clear f0 f1 f2 f3 hv h3; omega
    have l2 : y1 ≤ g - y0 := by clear f0 f1 f2 f3 hv h3; omega
    have l3 : y2 ≤ g - y0 - y1 := by clear f0 f1 f2 f3 hv h3; omega
    refine ⟨e, he, y0, Nat.zero_le _, Nat.le_min.mpr ⟨l1, f0⟩, y1, Nat.zero_le _, Nat.le_min.mpr ⟨l2, f1⟩, y2, Nat.zero_le _, Nat.le_min.mpr ⟨l3, f2⟩, ?_⟩
    unfold qS3
    rw [h3, dg_x]
    exact ⟨f3, hw, hv⟩
theorem dg_sub {a b c d y0 y1 y2 y3 : Nat} (h0 : y0 ≤ a) (h1 : y1 ≤ b) (h2 : y2 ≤ c) (h3 : y3 ≤ d) : a + 7 * b + 49 * c + 343 * d - (y0 + 7 * y1 + 49 * y2 + 343 * y3) = (a - y0) + 7 * (b - y1) + 49 * (c - y2) + 343 * (d - y3) := by omega
theorem dg_lt {a b c d : Nat} (ha : a ≤ 6) (hb : b ≤ 6) (hc : c ≤ 6) (hd : d ≤ 6) : a + 7 * b + 49 * c + 343 * d < 2401 := by omega
theorem qxDg.st {tt : Nat → Nat} {S : Nat → Prop} (h : qxDg tt S) (W : Nat → Int32) (g : Nat) (x : Int32) (hg : g ≤ 4) : qxDg tt (qxSt W g x S) := by
  intro v hv
  rcases hv with hv | ⟨_, hv⟩
  · obtain ⟨k, hk, _, e, he, ⟨f0, f1, f2, f3⟩, rfl⟩ := (qxLf_iff hg h v).mp hv
    obtain ⟨z0, z1, z2, z3, z4⟩ := h e he
    have b0 : e % 7 ≤ 6 := Nat.le_of_lt_succ (Nat.mod_lt _ (by decide))
    have b1 : e / 7 % 7 ≤ 6 := Nat.le_of_lt_succ (Nat.mod_lt _ (by decide))
    have b2 : e / 49 % 7 ≤ 6 := Nat.le_of_lt_succ (Nat.mod_lt _ (by decide))
    have b3 : e / 343 ≤ 6 := by clear f0 f1 f2 f3 z1 z2 z3 z4 b0 b1 b2; omega
    have hm : e - qxCd (qxY k) = (e % 7 - qxY k 0) + 7 * (e / 7 % 7 - qxY k 1) + 49 * (e / 49 % 7 - qxY k 2) + 343 * (e / 343 - qxY k 3) := by
      conv => lhs; lhs; rw [dg_of e]
      exact dg_sub f0 f1 f2 f3
    rw [hm]
    have c0 := Nat.le_trans (Nat.sub_le (e % 7) (qxY k 0)) b0
    have c1 := Nat.le_trans (Nat.sub_le (e / 7 % 7) (qxY k 1)) b1
    have c2 := Nat.le_trans (Nat.sub_le (e / 49 % 7) (qxY k 2)) b2
    have c3 := Nat.le_trans (Nat.sub_le (e / 343) (qxY k 3)) b3
    obtain ⟨g0, g1, g2, g3⟩ := dg7 (d := e / 343 - qxY k 3) c0 c1 c2
    rw [g0, g1, g2, g3]
    exact ⟨dg_lt c0 c1 c2 c3, Nat.le_trans (Nat.sub_le _ _) z1, Nat.le_trans (Nat.sub_le _ _) z2, Nat.le_trans (Nat.sub_le _ _) z3, Nat.le_trans (Nat.sub_le _ _) z4⟩
  · exact h v hv
theorem h_clear {u : zWd} {t g : Nat} {d : Int32} (ht : t < 8) (hg : u 232 (2016 + t) = nI g) : ∃ u1, mX12_serves 231 (nI t) d u = mX12_serves_42 231 (nI t) d (nI g) 0 0 u1 ∧ (∀ a, a ≠ 243 → u1 a = u a) ∧ ∀ e, e < 2401 → u1 243 e = 0 := by
  unfold mX12_serves mX12_serves_5
  refine zlp_R (R := fun (Y : Option (Int32 × zWd)) => ∃ u1, Y = mX12_serves_42 231 (nI t) d (nI g) 0 0 u1 ∧ (∀ a, a ≠ 243 → u1 a = u a) ∧ ∀ e, e < 2401 → u1 243 e = 0) (P := fun (i : Nat) (q : Int32 × zWd) => ∃ u1 : zWd, q = (nI i, u1) ∧ (∀ a, a ≠ 243 → u1 a = u a) ∧ ∀ e, e < i → u1 243 e = 0) (n := 2401) (by unfold zFU; omega) ?_ ⟨u, rfl, fun _ _ => rfl, fun e he => absurd he (Nat.not_lt_zero e)⟩
  rintro i hi q ⟨u1, rfl, g1, g2⟩ k hk
  simp only [mX12_serves_5b]
  by_cases e : i = 2401
  · subst e
    have e16 : (2016 : Int32) + nI t = nI (2016 + t) := nI_add 2016 t
    rw [if_pos (show (2401 : Int32) ≤ nI 2401 by decide), e16, zgd_t (show zin (nI (2016 + t)) 21948 from vp_in_nI (by omega) (by decide)), zbn_e, nI_clamp (show 2016 + t < 2 ^ 31 by omega)]
    refine ⟨u1, ?_, g1, g2⟩
    show mX12_serves_42 231 (nI t) d (u1 232 (2016 + t)) 0 0 u1 = _
    rw [g1 232 (by decide), hg]
  · rw [if_neg (show ¬ (2401 : Int32) ≤ nI i from nI_ge (b := 2401) (by omega) (by decide)), zgd_t (show zin (nI i) 2401 from vp_in_nI (by omega) (by decide)), zbn_e, nI_clamp (show i < 2 ^ 31 by omega), ← nI_succ]
    refine hk (by omega) _ ⟨_, rfl, fun a ha => ?_, fun c hc => ?_⟩
    · rw [zpE _ _ _ ha]; exact g1 a ha
    · by_cases ec : c = i
      · rw [ec, zu3]; decide
      · rw [zu2 _ _ ec]; exact g2 c (by omega)
theorem h_mcopy {u : zWd} {Q : Nat → Prop} {v : Int32} (hQ : ∀ e, e < 2401 → (u 243 e = 1 ∧ Q e) ∨ (u 243 e = 0 ∧ ¬ Q e)) (hv : v = 0 ∨ v = 1) : ∃ u', mX12_serves_237 231 v 0 u = some (v, u') ∧ (∀ a, a ≠ 242 → u' a = u a) ∧ (v = 0 → u' = u) ∧ (v = 1 → ∀ e, e < 2401 → (u' 242 e = 1 ∧ Q e) ∨ (u' 242 e = 0 ∧ ¬ Q e)) := by
  have zv : zB v := hv
  unfold mX12_serves_237
  refine zlp_R (R := fun (Y : Option (Int32 × zWd)) => ∃ u', Y = some (v, u') ∧ (∀ a, a ≠ 242 → u' a = u a) ∧ (v = 0 → u' = u) ∧ (v = 1 → ∀ e, e < 2401 → (u' 242 e = 1 ∧ Q e) ∨ (u' 242 e = 0 ∧ ¬ Q e))) (P := fun (i : Nat) (q : Int32 × zWd) => ∃ u1 : zWd, q = (nI i, u1) ∧ (∀ a, a ≠ 242 → u1 a = u a) ∧ (v = 0 → u1 = u) ∧ ∀ e, e < i → (u1 242 e = 1 ∧ Q e) ∨ (u1 242 e = 0 ∧ ¬ Q e)) (n := 2401) (by unfold zFU; omega) ?_ ⟨u, rfl, fun _ _ => rfl, fun _ => rfl, fun e he => absurd he (Nat.not_lt_zero e)⟩
  rintro i hi q ⟨u1, rfl, g1, g2, g3⟩ k hk
  simp only [mX12_serves_237b]
  unfold mX12_serves_269
  by_cases e : i = 2401
  · subst e
    rw [if_pos (show (2401 : Int32) ≤ nI 2401 by decide), zgd_t zv]
    exact ⟨u1, rfl, g1, g2, fun _ => g3⟩
  · rw [if_neg (show ¬ (2401 : Int32) ≤ nI i from nI_ge (b := 2401) (by omega) (by decide))]
    by_cases c : v = 0
    · rw [if_pos c, zgd_t zv]
      exact ⟨u1, rfl, g1, g2, fun q => absurd (q.symm.trans c) (by decide)⟩
    · have hz : zin (nI i) 2401 := vp_in_nI (by omega) (by decide)
      rw [if_neg c, zgd_t hz, zgd_t hz, zbn_e, nI_clamp (show i < 2 ^ 31 by omega), ← nI_succ]
      refine hk (by omega) _ ⟨_, rfl, fun a ha => ?_, fun q => absurd q c, fun e he => ?_⟩
      · rw [zpE _ _ _ ha]; exact g1 a ha
      · by_cases ec : e = i
        · rw [ec, zu3]
          show (vp_nar .boolean (u1 243 i) = 1 ∧ Q i) ∨ (vp_nar .boolean (u1 243 i) = 0 ∧ ¬ Q i)
          rw [g1 243 (by decide)]
          rcases hQ i (by omega) with ⟨j1, j2⟩ | ⟨j1, j2⟩
          · rw [j1]; exact Or.inl ⟨by decide, j2⟩
          · rw [j1]; exact Or.inr ⟨by decide, j2⟩
        · rw [zu2 _ _ ec]; exact g3 e (by omega)
theorem h_serves {u : zWd} {t g nd : Nat} {d : Int32} {tt : Nat → Nat} {W : Nat → Int32} {S : Nat → Prop} (ht : t < 8) (hg4 : g ≤ 4) (hg : u 232 (2016 + t) = nI g) (hn : ∀ u2 : zWd, u2 232 = u 232 → mX12_needsOf 231 (nI t) u2 = some (nI nd, u2)) (hf : ∀ i, i < 4 → tt i = 0 ∨ ∀ u2 : zWd, u2 232 = u 232 → mX12_flowOf 231 (nI i) d 3 u2 = some (W i, u2)) (htt : ∀ i, i < 4 → tt i ≤ 6 ∧ u 244 i = nI (tt i)) (hS : qxRp u S) (hD : qxDg tt S) :
    ∃ (b : Bool) (u' : zWd), mX12_serves 231 (nI t) d u = some (if b then 1 else 0, u') ∧ (b = true ↔ ∃ v, qxLf W g (nI g * nI nd) S v) ∧ (∀ a, a ≠ 242 → a ≠ 243 → a ≠ 245 → u' a = u a) ∧ qxRp u' (qxSt W g (nI g * nI nd) S) := by
  obtain ⟨u1, m1, m2, m3⟩ := h_clear (d := d) ht hg
  rw [m1]
  have hS1 : qxRp u1 S := ⟨fun e he => by rw [m2 242 (by decide)]; exact hS.1 e he, hS.2⟩
  unfold mX12_serves_42
  have main := z_add3 (G := fun (k : Int32 × Int32 × zWd → Option (Int32 × zWd)) (q : Int32 × Int32 × zWd) => mX12_serves_42b 231 (nI t) d (nI g) k q.1 q.2.1 q.2.2) (M := 625) (S := fun k n => qxOk tt W g (nI g * nI nd) k ∧ ∃ e, S e ∧ qxFt e (qxY k) ∧ n = e - qxCd (qxY k)) (K := fun v u => mX12_serves_237 231 v 0 u) (I := qxI u1) qxI.iff (fun k v u Q hQ => ?_) (fun i hi k v u3 Q hQ => ?_) 625 0 zFU 0 u1 (fun _ => False) (by omega) (by show _ < 100000; omega) ⟨fun _ _ _ => rfl, fun e he => Or.inr ⟨m3 e he, id⟩, Or.inr ⟨rfl, fun ⟨_, q⟩ => q⟩, fun e q => q.elim⟩
  rotate_left
  · show mX12_serves_42b 231 (nI t) d (nI g) k v (nI 625) u = _
    unfold mX12_serves_42b
    exact if_pos (show (625 : Int32) ≤ nI 625 by decide)
  · show ∃ v' u', mX12_serves_42b 231 (nI t) d (nI g) k v (nI i) u3 = _ ∧ _
    unfold mX12_serves_42b
    rw [if_neg (show ¬ (625 : Int32) ≤ nI i from nI_ge (b := 625) hi (by decide))]
    obtain ⟨fl, u4, f1, f2, f3, f4⟩ := h_by k (nI t) d v (nI i) hi hg4 (u := u3)
    rw [f1]
    obtain ⟨i1, i2, i3, i4⟩ := hQ
    have hy : ∀ j, j < 4 → qxY i j ≤ 4 ∧ u4 245 j = nI (qxY i j) := fun j hj => ⟨qxY_le i j, f4 j hj⟩
    have fr : ∀ a, a ≠ 243 → a ≠ 245 → u4 a = u a := fun a a1 a2 => by rw [f3 a a2, i1 a a1 a2, m2 a a1]
    have hI4 : qxI u1 v u4 Q := ⟨fun a a1 a2 => by rw [f3 a a2]; exact i1 a a1 a2, fun e he => by rw [f3 243 (by decide)]; exact i2 e he, i3, i4⟩
    have hno : (¬ qxOk tt W g (nI g * nI nd) i) → qxI u1 v u4 (fun n => Q n ∨ qxOk tt W g (nI g * nI nd) i ∧ ∃ e, S e ∧ qxFt e (qxY i) ∧ n = e - qxCd (qxY i)) := fun q => qxI.iff v u4 Q _ (fun n => ⟨Or.inl, fun p => p.elim id (fun p => absurd p.1 q)⟩) hI4
    rcases h_flag k (nI t) d v (nI g) (nI i) hy (fun j hj => ⟨(htt j hj).1, by rw [fr 244 (by decide) (by decide)]; exact (htt j hj).2⟩) f2 with ⟨c1, c2⟩ | ⟨c1, c2⟩
    rotate_left
    · rw [c2, ← nI_succ]
      exact ⟨v, u4, rfl, hno (fun q => c1 q.1)⟩
    have hfl : ∀ j, j < 4 → qxY i j = 0 ∨ mX12_flowOf 231 (nI j) d 3 u4 = some (W j, u4) := fun j hj => by
      rcases hf j hj with q | q
      · exact Or.inl (by have := c1.2 j hj; omega)
      · exact Or.inr (q u4 (fr 232 (by decide) (by decide)))
    obtain ⟨r, r1, r2⟩ := h_warm (u := u4) (W := W) (d := d) (nd := nd) hy hfl ht (by rw [fr 232 (by decide) (by decide)]; exact hg) (hn u4 (fr 232 (by decide) (by decide)))
    rw [c2, r1, zcl_s]
    rcases r2 with ⟨rfl, r2⟩ | ⟨rfl, r2⟩
    rotate_left
    · rw [if_pos rfl]
      unfold mX12_serves_228
      rw [← nI_succ]
      exact ⟨v, u4, rfl, hno (fun q => r2 q.2)⟩
    rw [if_neg (show ¬ (1 : Int32) = 0 by decide)]
    obtain ⟨v5, u5, j1, j2⟩ := h_codes k (nI t) d (nI g) (nI i) hS1 hy hI4
    rw [j1, ← nI_succ]
    exact ⟨v5, u5, rfl, qxI.iff v5 u5 _ _ (fun n => ⟨fun q => q.elim Or.inl (fun q => Or.inr ⟨⟨c1, r2⟩, q⟩), fun q => q.elim Or.inl (fun q => Or.inr q.2)⟩) j2⟩
  obtain ⟨v2, u2, p1, p2⟩ := main
  obtain ⟨i1, i2, i3, i4⟩ := p2
  have hQ : ∀ n, (False ∨ ∃ j, 0 ≤ j ∧ j < 625 ∧ qxOk tt W g (nI g * nI nd) j ∧ ∃ e, S e ∧ qxFt e (qxY j) ∧ n = e - qxCd (qxY j)) ↔ qxLf W g (nI g * nI nd) S n := fun n => by
    rw [qxLf_iff hg4 hD]
    exact ⟨fun q => q.elim False.elim (fun ⟨j, _, q⟩ => ⟨j, q⟩), fun ⟨j, q⟩ => Or.inr ⟨j, Nat.zero_le j, q⟩⟩
  obtain ⟨u5, j1, j2, j3, j4⟩ := h_mcopy i2 (i3.elim (fun q => Or.inr q.1) (fun q => Or.inl q.1))
  have fr : ∀ a, a ≠ 242 → a ≠ 243 → a ≠ 245 → u5 a = u a := fun a a0 a1 a2 => by rw [j2 a a0, i1 a a1 a2, m2 a a1]
  rw [show zlp (fun k (q : Int32 × Int32 × zWd) => mX12_serves_42b 231 (nI t) d (nI g) k q.1 q.2.1 q.2.2) zFU (0, 0, u1) = _ from p1, j1]
  rcases i3 with ⟨rfl, x, hx⟩ | ⟨rfl, hx⟩
  · have hn2 : ∃ v, qxLf W g (nI g * nI nd) S v := ⟨x, (hQ x).mp hx⟩
    refine ⟨true, u5, rfl, ⟨fun _ => hn2, fun _ => rfl⟩, fr, fun e he => ?_, fun e he => ?_⟩
    · rcases j4 rfl e he with ⟨q1, q2⟩ | ⟨q1, q2⟩
      · exact Or.inl ⟨q1, Or.inl ((hQ e).mp q2)⟩
      · exact Or.inr ⟨q1, fun q => q.elim (fun q => q2 ((hQ e).mpr q)) (fun q => q.1 hn2)⟩
    · rcases he with q | q
      · exact i4 e ((hQ e).mpr q)
      · exact absurd hn2 q.1
  · have hn2 : ¬ ∃ v, qxLf W g (nI g * nI nd) S v := fun ⟨v, q⟩ => hx ⟨v, (hQ v).mpr q⟩
    have e5 := j3 rfl
    refine ⟨false, u5, rfl, ⟨fun q => by simp at q, fun q => absurd q hn2⟩, fr, fun e he => ?_, fun e he => ?_⟩
    · rw [e5, i1 242 (by decide) (by decide)]
      rcases hS1.1 e he with ⟨q1, q2⟩ | ⟨q1, q2⟩
      · exact Or.inl ⟨q1, Or.inr ⟨hn2, q2⟩⟩
      · exact Or.inr ⟨q1, fun q => q.elim (fun q => hn2 ⟨e, q⟩) (fun q => q2 q.2)⟩
    · rcases he with q | q
      · exact absurd ⟨e, q⟩ hn2
      · exact hS.2 e q.2
