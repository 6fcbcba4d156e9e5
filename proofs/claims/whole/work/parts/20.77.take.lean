/-! THE MIX: what may be taken from a code -/
/-- a loop that adds sets -/
theorem z_add {α : Type} {G : (Int32 × zWd → Option α) → Int32 × zWd → Option α} {M : Nat} {S : Nat → Nat → Prop} {K : zWd → Option α} {I : zWd → (Nat → Prop) → Prop} (hI : ∀ u (Q R : Nat → Prop), (∀ e, Q e ↔ R e) → I u Q → I u R)
    (hstop : ∀ k u, G k (nI (M + 1), u) = K u) (hstep : ∀ i, i ≤ M → ∀ k u Q, I u Q → ∃ u', G k (nI i, u) = k (nI (i + 1), u') ∧ I u' (fun e => Q e ∨ S i e)) : ∀ m i F u Q, i + m = M + 1 → m < F → I u Q → ∃ u', zlp G F (nI i, u) = K u' ∧ I u' (fun e => Q e ∨ ∃ j, i ≤ j ∧ j ≤ M ∧ S j e) := by
  intro m
  induction m with
  | zero =>
    intro i F u Q h1 h2 h3
    obtain ⟨F, rfl⟩ : ∃ F', F = F' + 1 := ⟨F - 1, by omega⟩
    obtain rfl : i = M + 1 := by omega
    refine ⟨u, by rw [zlp_1, hstop], hI u _ _ (fun e => ⟨Or.inl, fun q => ?_⟩) h3⟩
    rcases q with q | ⟨j, j1, j2, _⟩
    · exact q
    · omega
  | succ m ih =>
    intro i F u Q h1 h2 h3
    obtain ⟨F, rfl⟩ : ∃ F', F = F' + 1 := ⟨F - 1, by omega⟩
    obtain ⟨u1, g1, g2⟩ := hstep i (by omega) (zlp G F) u Q h3
    obtain ⟨u2, g3, g4⟩ := ih (i + 1) F u1 _ (by omega) (by omega) g2
    refine ⟨u2, by rw [zlp_1, g1, g3], hI u2 _ _ (fun e => ⟨fun q => ?_, fun q => ?_⟩) g4⟩
    · rcases q with (q | q) | ⟨j, j1, j2, j3⟩
      · exact Or.inl q
      · exact Or.inr ⟨i, Nat.le_refl i, by omega, q⟩
      · exact Or.inr ⟨j, by omega, j2, j3⟩
    · rcases q with q | ⟨j, j1, j2, j3⟩
      · exact Or.inl (Or.inl q)
      · by_cases ej : j = i
        · rw [ej] at j3; exact Or.inl (Or.inr j3)
        · exact Or.inr ⟨j, by omega, j2, j3⟩
/-- the set that is kept -/
def qKs (w0 : zWd) (B r : Nat) (u : zWd) (Q : Nat → Prop) : Prop := ∃ L, qKp w0 u B r L ∧ ∀ e, e ∈ L ↔ Q e
theorem qKs.iff {w0 : zWd} {B r : Nat} : ∀ u (Q R : Nat → Prop), (∀ e, Q e ↔ R e) → qKs w0 B r u Q → qKs w0 B r u R := fun u Q R h ⟨L, h1, h2⟩ => ⟨L, h1, fun e => (h2 e).trans (h e)⟩
/-- warm enough -/
def qWm (W : Nat → Int32) (y0 y1 y2 y3 : Nat) (x : Int32) : Prop := ¬ nI y0 * W 0 + nI y1 * W 1 + nI y2 * W 2 + nI y3 * W 3 < x
