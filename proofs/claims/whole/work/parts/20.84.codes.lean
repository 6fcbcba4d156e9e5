/-! THE MIX, the model's: a set of codes that grows, and a flag beside it -/
theorem z_add3 {α : Type} {G : (Int32 × Int32 × zWd → Option α) → Int32 × Int32 × zWd → Option α} {M : Nat} {S : Nat → Nat → Prop} {K : Int32 → zWd → Option α} {I : Int32 → zWd → (Nat → Prop) → Prop} (hI : ∀ v u (Q R : Nat → Prop), (∀ e, Q e ↔ R e) → I v u Q → I v u R)
    (hstop : ∀ k v u Q, I v u Q → G k (v, nI M, u) = K v u) (hstep : ∀ i, i < M → ∀ k v u Q, I v u Q → ∃ v' u', G k (v, nI i, u) = k (v', nI (i + 1), u') ∧ I v' u' (fun e => Q e ∨ S i e)) : ∀ m i F v u Q, i + m = M → m < F → I v u Q → ∃ v' u', zlp G F (v, nI i, u) = K v' u' ∧ I v' u' (fun e => Q e ∨ ∃ j, i ≤ j ∧ j < M ∧ S j e) := by
  intro m
  induction m with
  | zero =>
    intro i F v u Q h1 h2 h3
    obtain ⟨F, rfl⟩ : ∃ F', F = F' + 1 := ⟨F - 1, by omega⟩
    obtain rfl : i = M := by omega
    refine ⟨v, u, by rw [zlp_1, hstop _ _ _ _ h3], hI v u _ _ (fun e => ⟨Or.inl, fun q => ?_⟩) h3⟩
    rcases q with q | ⟨j, j1, j2, _⟩
    · exact q
    · omega
  | succ m ih =>
    intro i F v u Q h1 h2 h3
    obtain ⟨F, rfl⟩ : ∃ F', F = F' + 1 := ⟨F - 1, by omega⟩
    obtain ⟨v1, u1, g1, g2⟩ := hstep i (by omega) (zlp G F) v u Q h3
    obtain ⟨v2, u2, g3, g4⟩ := ih (i + 1) F v1 u1 _ (by omega) (by omega) g2
    refine ⟨v2, u2, by rw [zlp_1, g1, g3], hI v2 u2 _ _ (fun e => ⟨fun q => ?_, fun q => ?_⟩) g4⟩
    · rcases q with (q | q) | ⟨j, j1, j2, j3⟩
      · exact Or.inl q
      · exact Or.inr ⟨i, Nat.le_refl i, by omega, q⟩
      · exact Or.inr ⟨j, by omega, j2, j3⟩
    · rcases q with q | ⟨j, j1, j2, j3⟩
      · exact Or.inl (Or.inl q)
      · by_cases ej : j = i
        · rw [ej] at j3; exact Or.inl (Or.inr j3)
        · exact Or.inr ⟨j, by omega, j2, j3⟩
/-- what may be left next, Q, as far as it is known -/
def qxI (u0 : zWd) (v : Int32) (u : zWd) (Q : Nat → Prop) : Prop := (∀ a, a ≠ 243 → a ≠ 245 → u a = u0 a) ∧ (∀ e, e < 2401 → (u 243 e = 1 ∧ Q e) ∨ (u 243 e = 0 ∧ ¬ Q e)) ∧ ((v = 1 ∧ ∃ e, Q e) ∨ (v = 0 ∧ ¬ ∃ e, Q e)) ∧ ∀ e, Q e → e < 2401
theorem qxI.iff {u0 : zWd} : ∀ v u (Q R : Nat → Prop), (∀ e, Q e ↔ R e) → qxI u0 v u Q → qxI u0 v u R := by
  intro v u Q R h hq
  obtain rfl : Q = R := funext (fun e => propext (h e))
  exact hq
/-- what may be left, S -/
def qxRp (u : zWd) (S : Nat → Prop) : Prop := (∀ e, e < 2401 → (u 242 e = 1 ∧ S e) ∨ (u 242 e = 0 ∧ ¬ S e)) ∧ ∀ e, S e → e < 2401
theorem h_codes {u0 u : zWd} {S Q : Nat → Prop} {v : Int32} {y : Nat → Nat} (k42 : Int32 × Int32 × zWd → Option (Int32 × zWd)) (t d g v5 : Int32) (hS : qxRp u0 S) (hy : ∀ i, i < 4 → y i ≤ 4 ∧ u 245 i = nI (y i)) (hI : qxI u0 v u Q) : ∃ v' u', mX12_serves_176 k42 231 t d g v5 v 0 u = k42 (v', v5 + 1, u') ∧ qxI u0 v' u' (fun n => Q n ∨ ∃ e, S e ∧ qxFt e y ∧ n = e - qxCd y) := by
  unfold mX12_serves_176
  have main := z_add3 (G := fun (k : Int32 × Int32 × zWd → Option (Int32 × zWd)) (q : Int32 × Int32 × zWd) => mX12_serves_176b k42 231 t d g v5 k q.1 q.2.1 q.2.2) (M := 2401) (S := fun e n => S e ∧ qxFt e y ∧ n = e - qxCd y) (K := fun v u => k42 (v, v5 + 1, u)) (I := fun v u Q => qxI u0 v u Q ∧ ∀ i, i < 4 → u 245 i = nI (y i))
    (fun v u Q R h hq => ⟨qxI.iff v u Q R h hq.1, hq.2⟩) (fun k v u Q hQ => ?_) (fun e he k v u Q hQ => ?_) 2401 0 zFU v u Q (by omega) (by show _ < 100000; omega) ⟨hI, fun i hi => (hy i hi).2⟩
  · obtain ⟨v1, u1, m1, m2⟩ := main
    refine ⟨v1, u1, m1, qxI.iff _ _ _ _ (fun n => ⟨fun q => ?_, fun q => ?_⟩) m2.1⟩
    · rcases q with q | ⟨e, _, _, q⟩
      · exact Or.inl q
      · exact Or.inr ⟨e, q⟩
    · rcases q with q | ⟨e, q⟩
      · exact Or.inl q
      · exact Or.inr ⟨e, Nat.zero_le _, hS.2 e q.1, q⟩
  · show mX12_serves_176b k42 231 t d g v5 k v (nI 2401) u = _
    unfold mX12_serves_176b mX12_serves_228
    exact if_pos (show (2401 : Int32) ≤ nI 2401 by decide)
  · obtain ⟨⟨i1, i2, i3, i4⟩, hY⟩ := hQ
    have hz : zin (nI e) 2401 := vp_in_nI he (by decide)
    have e242 : u 242 e = u0 242 e := by rw [i1 242 (by decide) (by decide)]
    have hno : (¬ (S e ∧ qxFt e y)) → (qxI u0 v u (fun n => Q n ∨ S e ∧ qxFt e y ∧ n = e - qxCd y) ∧ ∀ i, i < 4 → u 245 i = nI (y i)) := fun q => ⟨qxI.iff v u Q _ (fun n => ⟨Or.inl, fun p => p.elim id (fun p => absurd ⟨p.1, p.2.1⟩ q)⟩) ⟨i1, i2, i3, i4⟩, hY⟩
    have stp : mX12_serves_204 k42 k 231 t d v g v5 (nI e) (-1) u = k (v, nI (e + 1), u) := by
      unfold mX12_serves_204 mX12_serves_222
      rw [if_pos rfl, ← nI_succ]
    show ∃ v' u', mX12_serves_176b k42 231 t d g v5 k v (nI e) u = _ ∧ _
    unfold mX12_serves_176b
    rw [if_neg (show ¬ (2401 : Int32) ≤ nI e from nI_ge (b := 2401) he (by decide)), zgd_t hz, nI_clamp (show e < 2 ^ 31 by omega)]
    show ∃ v' u', (if u 242 e = 0 then _ else _) = _ ∧ _
    rw [e242]
    rcases hS.1 e he with ⟨a, b⟩ | ⟨a, b⟩
    rotate_left
    · rw [a, if_pos rfl, stp]
      exact ⟨v, u, rfl, hno (fun q => b q.1)⟩
    obtain ⟨x, x1, x2⟩ := h_without he (fun i hi => ⟨(hy i hi).1, hY i hi⟩)
    rw [a, if_neg (show ¬ (1 : Int32) = 0 by decide), x1, zcl_s]
    rcases x2 with ⟨f1, rfl⟩ | ⟨f1, rfl⟩
    rotate_left
    · rw [stp]
      exact ⟨v, u, rfl, hno (fun q => f1 q.2)⟩
    have hn : e - qxCd y < 2401 := by omega
    unfold mX12_serves_204 mX12_serves_222
    rw [if_neg (show ¬ nI (e - qxCd y) = -1 from fun q => by have := congrArg Int32.toInt q; rw [nIi (by omega), Tm1] at this; omega), zgd_t (show zin (nI (e - qxCd y)) 2401 from vp_in_nI hn (by decide)), zbn_e, nI_clamp (show e - qxCd y < 2 ^ 31 by omega), ← nI_succ]
    refine ⟨1, _, rfl, ⟨fun c c1 c2 => ?_, fun c hc => ?_, Or.inl ⟨rfl, e - qxCd y, Or.inr ⟨b, f1, rfl⟩⟩, fun c hc => ?_⟩, fun i hi => ?_⟩
    · rw [zpE _ _ _ c1]; exact i1 c c1 c2
    · by_cases ec : c = e - qxCd y
      · rw [ec, zu3]; exact Or.inl ⟨by decide, Or.inr ⟨b, f1, rfl⟩⟩
      · rw [zu2 _ _ ec]
        rcases i2 c hc with ⟨j1, j2⟩ | ⟨j1, j2⟩
        · exact Or.inl ⟨j1, Or.inl j2⟩
        · exact Or.inr ⟨j1, fun q => q.elim j2 (fun q => ec q.2.2)⟩
    · rcases hc with q | q
      · exact i4 c q
      · rw [q.2.2]; exact hn
    · rw [zpE _ _ _ (by decide)]; exact hY i hi
